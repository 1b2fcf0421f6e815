def lk_ch (ch : List (List Cond)) (q : Nat × Nat) : Option Cond := match ch[q.1]? with
  | some c => c[q.2]?
  | none => none
theorem goodIn_ch {big : List Cond} (ch : List (List Cond)) (hin : ∀ c ∈ ch, ∀ w ∈ c, w ∈ big) (hg : big.all goodWord = true) {ws : List Cond} (ps : List (Nat × Nat)) (hp : ws = ps.filterMap (lk_ch ch)) : GoodIn big ws := by
  intro w hw
  have hm : w ∈ big := by
    rw [hp] at hw
    obtain ⟨q, -, hq⟩ := List.mem_filterMap.mp hw
    unfold lk_ch at hq
    split at hq
    · rename_i c hc
      exact hin c (List.mem_of_getElem? hc) w (List.mem_of_getElem? hq)
    · cases hq
  exact ⟨hm, good_of_word (List.all_eq_true.mp hg w hm)⟩
def ch_isBlame : List (List Cond) := [wsL_isBlame_r1, wsL_isBlame_r2, wsL_isBlame_r3, wsL_isBlame_r4, wsL_isBlame_r5, wsL_isBlame_r6, wsL_isBlame_r7, wsL_isBlame_r8, wsL_isBlame_r9, wsL_isBlame_r10, wsL_isBlame_r11, wsX100, wsX90, wsX40, wsX50, wsX80, wsX70]
theorem chm_isBlame_0 : ∀ w ∈ wsL_isBlame_r1, w ∈ wsL_isBlame := fun w h => List.mem_cons_of_mem _ (List.mem_append_left _ (List.mem_append_left _ (List.mem_append_left _ (List.mem_append_left _ (List.mem_append_left _ (List.mem_append_left _ (List.mem_append_left _ (List.mem_append_left _ h))))))))
theorem chm_isBlame_1 : ∀ w ∈ wsL_isBlame_r2, w ∈ wsL_isBlame := fun w h => List.mem_cons_of_mem _ (List.mem_append_left _ (List.mem_append_left _ (List.mem_append_left _ (List.mem_append_left _ (List.mem_append_left _ (List.mem_append_left _ (List.mem_append_left _ (List.mem_append_right _ (List.mem_append_left _ h)))))))))
theorem chm_isBlame_2 : ∀ w ∈ wsL_isBlame_r3, w ∈ wsL_isBlame := fun w h => List.mem_cons_of_mem _ (List.mem_append_left _ (List.mem_append_left _ (List.mem_append_left _ (List.mem_append_left _ (List.mem_append_left _ (List.mem_append_left _ (List.mem_append_left _ (List.mem_append_right _ (List.mem_append_right _ (List.mem_append_left _ h))))))))))
theorem chm_isBlame_3 : ∀ w ∈ wsL_isBlame_r4, w ∈ wsL_isBlame := fun w h => List.mem_cons_of_mem _ (List.mem_append_left _ (List.mem_append_left _ (List.mem_append_left _ (List.mem_append_left _ (List.mem_append_left _ (List.mem_append_left _ (List.mem_append_left _ (List.mem_append_right _ (List.mem_append_right _ (List.mem_append_right _ (List.mem_append_left _ h)))))))))))
theorem chm_isBlame_4 : ∀ w ∈ wsL_isBlame_r5, w ∈ wsL_isBlame := fun w h => List.mem_cons_of_mem _ (List.mem_append_left _ (List.mem_append_left _ (List.mem_append_left _ (List.mem_append_left _ (List.mem_append_left _ (List.mem_append_left _ (List.mem_append_left _ (List.mem_append_right _ (List.mem_append_right _ (List.mem_append_right _ (List.mem_append_right _ (List.mem_append_left _ h))))))))))))
theorem chm_isBlame_5 : ∀ w ∈ wsL_isBlame_r6, w ∈ wsL_isBlame := fun w h => List.mem_cons_of_mem _ (List.mem_append_left _ (List.mem_append_left _ (List.mem_append_left _ (List.mem_append_left _ (List.mem_append_left _ (List.mem_append_left _ (List.mem_append_left _ (List.mem_append_right _ (List.mem_append_right _ (List.mem_append_right _ (List.mem_append_right _ (List.mem_append_right _ (List.mem_append_left _ h)))))))))))))
theorem chm_isBlame_6 : ∀ w ∈ wsL_isBlame_r7, w ∈ wsL_isBlame := fun w h => List.mem_cons_of_mem _ (List.mem_append_left _ (List.mem_append_left _ (List.mem_append_left _ (List.mem_append_left _ (List.mem_append_left _ (List.mem_append_left _ (List.mem_append_left _ (List.mem_append_right _ (List.mem_append_right _ (List.mem_append_right _ (List.mem_append_right _ (List.mem_append_right _ (List.mem_append_right _ (List.mem_append_left _ h))))))))))))))
theorem chm_isBlame_7 : ∀ w ∈ wsL_isBlame_r8, w ∈ wsL_isBlame := fun w h => List.mem_cons_of_mem _ (List.mem_append_left _ (List.mem_append_left _ (List.mem_append_left _ (List.mem_append_left _ (List.mem_append_left _ (List.mem_append_left _ (List.mem_append_left _ (List.mem_append_right _ (List.mem_append_right _ (List.mem_append_right _ (List.mem_append_right _ (List.mem_append_right _ (List.mem_append_right _ (List.mem_append_right _ (List.mem_append_left _ h)))))))))))))))
theorem chm_isBlame_8 : ∀ w ∈ wsL_isBlame_r9, w ∈ wsL_isBlame := fun w h => List.mem_cons_of_mem _ (List.mem_append_left _ (List.mem_append_left _ (List.mem_append_left _ (List.mem_append_left _ (List.mem_append_left _ (List.mem_append_left _ (List.mem_append_left _ (List.mem_append_right _ (List.mem_append_right _ (List.mem_append_right _ (List.mem_append_right _ (List.mem_append_right _ (List.mem_append_right _ (List.mem_append_right _ (List.mem_append_right _ (List.mem_append_left _ h))))))))))))))))
theorem chm_isBlame_9 : ∀ w ∈ wsL_isBlame_r10, w ∈ wsL_isBlame := fun w h => List.mem_cons_of_mem _ (List.mem_append_left _ (List.mem_append_left _ (List.mem_append_left _ (List.mem_append_left _ (List.mem_append_left _ (List.mem_append_left _ (List.mem_append_left _ (List.mem_append_right _ (List.mem_append_right _ (List.mem_append_right _ (List.mem_append_right _ (List.mem_append_right _ (List.mem_append_right _ (List.mem_append_right _ (List.mem_append_right _ (List.mem_append_right _ (List.mem_append_left _ h)))))))))))))))))
theorem chm_isBlame_10 : ∀ w ∈ wsL_isBlame_r11, w ∈ wsL_isBlame := fun w h => List.mem_cons_of_mem _ (List.mem_append_left _ (List.mem_append_left _ (List.mem_append_left _ (List.mem_append_left _ (List.mem_append_left _ (List.mem_append_left _ (List.mem_append_left _ (List.mem_append_right _ (List.mem_append_right _ (List.mem_append_right _ (List.mem_append_right _ (List.mem_append_right _ (List.mem_append_right _ (List.mem_append_right _ (List.mem_append_right _ (List.mem_append_right _ (List.mem_append_right _ h)))))))))))))))))
theorem chm_isBlame_11 : ∀ w ∈ wsX100, w ∈ wsL_isBlame := fun w h => List.mem_cons_of_mem _ (List.mem_append_left _ (List.mem_append_left _ (List.mem_append_left _ (List.mem_append_left _ (List.mem_append_left _ (List.mem_append_left _ (List.mem_append_right _ h)))))))
theorem chm_isBlame_12 : ∀ w ∈ wsX90, w ∈ wsL_isBlame := fun w h => List.mem_cons_of_mem _ (List.mem_append_left _ (List.mem_append_left _ (List.mem_append_left _ (List.mem_append_left _ (List.mem_append_left _ (List.mem_append_right _ h))))))
theorem chm_isBlame_13 : ∀ w ∈ wsX40, w ∈ wsL_isBlame := fun w h => List.mem_cons_of_mem _ (List.mem_append_left _ (List.mem_append_left _ (List.mem_append_left _ (List.mem_append_left _ (List.mem_append_right _ h)))))
theorem chm_isBlame_14 : ∀ w ∈ wsX50, w ∈ wsL_isBlame := fun w h => List.mem_cons_of_mem _ (List.mem_append_left _ (List.mem_append_left _ (List.mem_append_left _ (List.mem_append_right _ h))))
theorem chm_isBlame_15 : ∀ w ∈ wsX80, w ∈ wsL_isBlame := fun w h => List.mem_cons_of_mem _ (List.mem_append_left _ (List.mem_append_left _ (List.mem_append_right _ h)))
theorem chm_isBlame_16 : ∀ w ∈ wsX70, w ∈ wsL_isBlame := fun w h => List.mem_cons_of_mem _ (List.mem_append_left _ (List.mem_append_right _ h))
theorem chi_isBlame : ∀ c ∈ ch_isBlame, ∀ w ∈ c, w ∈ wsL_isBlame := (List.forall_mem_cons.mpr ⟨chm_isBlame_0, (List.forall_mem_cons.mpr ⟨chm_isBlame_1, (List.forall_mem_cons.mpr ⟨chm_isBlame_2, (List.forall_mem_cons.mpr ⟨chm_isBlame_3, (List.forall_mem_cons.mpr ⟨chm_isBlame_4, (List.forall_mem_cons.mpr ⟨chm_isBlame_5, (List.forall_mem_cons.mpr ⟨chm_isBlame_6, (List.forall_mem_cons.mpr ⟨chm_isBlame_7, (List.forall_mem_cons.mpr ⟨chm_isBlame_8, (List.forall_mem_cons.mpr ⟨chm_isBlame_9, (List.forall_mem_cons.mpr ⟨chm_isBlame_10, (List.forall_mem_cons.mpr ⟨chm_isBlame_11, (List.forall_mem_cons.mpr ⟨chm_isBlame_12, (List.forall_mem_cons.mpr ⟨chm_isBlame_13, (List.forall_mem_cons.mpr ⟨chm_isBlame_14, (List.forall_mem_cons.mpr ⟨chm_isBlame_15, (List.forall_mem_cons.mpr ⟨chm_isBlame_16, (fun _ h => absurd h List.not_mem_nil)⟩)⟩)⟩)⟩)⟩)⟩)⟩)⟩)⟩)⟩)⟩)⟩)⟩)⟩)⟩)⟩)⟩)
set_option maxRecDepth 100000 in
theorem chg_isBlame : wsL_isBlame.all goodWord = true := by decide +kernel
set_option maxRecDepth 100000 in
theorem ggL_isBlame_X10_pamphlets : GoodIn wsL_isBlame wsX10_pamphlets := goodIn_ch ch_isBlame chi_isBlame chg_isBlame [(0, 4), (0, 5), (11, 0), (11, 1), (11, 2), (11, 3), (11, 4), (11, 5), (11, 6), (12, 0), (12, 1), (12, 2), (12, 3)] rfl
set_option maxRecDepth 100000 in
theorem gL_isBlame_X10_pamphlets : GoodIn wsL_isBlame (wsV RL 79 RX10 yX10_pamphlets wsX10_pamphlets) := goodIn_app (goodIn_ch ch_isBlame chi_isBlame chg_isBlame [(0, 0), (0, 1), (0, 2), (0, 3)] rfl) ggL_isBlame_X10_pamphlets
set_option maxRecDepth 100000 in
theorem ggL_isBlame_X10_quotationsOf : GoodIn wsL_isBlame wsX10_quotationsOf := goodIn_ca (goodIn_ch ch_isBlame chi_isBlame chg_isBlame [(0, 9), (0, 5), (0, 10), (0, 11), (0, 12), (0, 3), (0, 13), (0, 14), (0, 15), (0, 16), (0, 17), (0, 18), (0, 19), (0, 20), (0, 21), (0, 22), (0, 23), (1, 0), (1, 1), (1, 2), (1, 3), (11, 0), (11, 1), (11, 2), (11, 3), (11, 4), (11, 5), (11, 6), (13, 0), (13, 1), (13, 2), (13, 3), (13, 4), (13, 5), (13, 6), (13, 7), (12, 0), (12, 1), (12, 2), (12, 3)] rfl) (goodIn_sub (fun _ h => List.mem_cons_of_mem _ (List.mem_append_right _ h)) (by decide +kernel))
set_option maxRecDepth 100000 in
theorem gL_isBlame_X10_quotationsOf : GoodIn wsL_isBlame (wsV RL 82 RX10 yX10_quotationsOf wsX10_quotationsOf) := goodIn_app (goodIn_ch ch_isBlame chi_isBlame chg_isBlame [(0, 6), (0, 7), (0, 8), (0, 3)] rfl) ggL_isBlame_X10_quotationsOf
set_option maxRecDepth 100000 in
theorem ggL_isBlame_X10_changesByTable : GoodIn wsL_isBlame wsX10_changesByTable := goodIn_ca (goodIn_ch ch_isBlame chi_isBlame chg_isBlame [(1, 7), (1, 8), (0, 5), (1, 9), (1, 10), (1, 11), (0, 3), (1, 12), (0, 14), (0, 15), (0, 10), (0, 11), (0, 12), (0, 13), (0, 16), (0, 17), (0, 18), (0, 19), (0, 20), (0, 21), (0, 22), (0, 23), (1, 0), (1, 1), (1, 2), (1, 3), (1, 13), (1, 14), (1, 15), (1, 16), (1, 17), (1, 18), (1, 19), (1, 20), (1, 21), (1, 22), (1, 23), (2, 0), (2, 1), (2, 2), (2, 3), (2, 4), (2, 5), (2, 6), (2, 7), (2, 8), (2, 9), (2, 10), (2, 11), (2, 12), (2, 13), (2, 14), (2, 15), (2, 16), (2, 17), (2, 18), (2, 19), (2, 20), (2, 21), (2, 22), (2, 23), (3, 0), (3, 1), (3, 2), (3, 3), (3, 4), (3, 5), (3, 6), (3, 7), (11, 0), (11, 1), (11, 2), (11, 3), (11, 4), (11, 5), (11, 6), (13, 0), (13, 1), (13, 2), (13, 3), (13, 4), (13, 5), (13, 6), (13, 7), (12, 0), (12, 1), (12, 2), (12, 3), (14, 0), (14, 1), (14, 2), (15, 0), (15, 1), (15, 2), (15, 3), (16, 0)] rfl) (goodIn_sub (fun _ h => List.mem_cons_of_mem _ (List.mem_append_right _ h)) (by decide +kernel))
set_option maxRecDepth 100000 in
theorem gL_isBlame_X10_changesByTable : GoodIn wsL_isBlame (wsV RL 39 RX10 yX10_changesByTable wsX10_changesByTable) := goodIn_app (goodIn_ch ch_isBlame chi_isBlame chg_isBlame [(1, 4), (1, 5), (1, 6), (0, 3)] rfl) ggL_isBlame_X10_changesByTable
set_option maxRecDepth 100000 in
theorem ggL_isBlame_X10_quotedAgain : GoodIn wsL_isBlame wsX10_quotedAgain := goodIn_ca (goodIn_ch ch_isBlame chi_isBlame chg_isBlame [(3, 11), (1, 8), (0, 5), (1, 9), (1, 10), (1, 11), (0, 3), (1, 12), (0, 14), (0, 15), (0, 10), (0, 11), (0, 12), (0, 13), (0, 16), (0, 17), (0, 18), (0, 19), (0, 20), (0, 21), (0, 22), (0, 23), (1, 0), (1, 1), (1, 2), (1, 3), (3, 12), (3, 13), (3, 14), (1, 16), (3, 15), (1, 18), (1, 19), (1, 20), (1, 21), (1, 22), (1, 23), (2, 0), (2, 1), (3, 16), (1, 14), (1, 15), (1, 17), (2, 2), (2, 3), (2, 4), (2, 5), (2, 6), (2, 7), (2, 8), (2, 9), (2, 10), (2, 11), (2, 12), (2, 13), (2, 14), (2, 15), (2, 16), (2, 17), (2, 18), (2, 19), (2, 20), (2, 21), (2, 22), (2, 23), (3, 0), (3, 1), (3, 2), (3, 3), (3, 4), (3, 5), (3, 6), (3, 7), (3, 17), (3, 18), (3, 19), (3, 20), (3, 21), (3, 22), (3, 23), (4, 0), (11, 0), (11, 1), (11, 2), (11, 3), (11, 4), (11, 5), (11, 6), (13, 0), (13, 1), (13, 2), (13, 3), (13, 4), (13, 5), (13, 6), (13, 7), (12, 0), (12, 1), (12, 2), (12, 3), (14, 0), (14, 1), (14, 2), (15, 0), (15, 1), (15, 2), (15, 3), (16, 0)] rfl) (goodIn_sub (fun _ h => List.mem_cons_of_mem _ (List.mem_append_right _ h)) (by decide +kernel))
set_option maxRecDepth 100000 in
theorem gL_isBlame_X10_quotedAgain : GoodIn wsL_isBlame (wsV RL 107 RX10 yX10_quotedAgain wsX10_quotedAgain) := goodIn_app (goodIn_ch ch_isBlame chi_isBlame chg_isBlame [(3, 8), (3, 9), (3, 10), (0, 3)] rfl) ggL_isBlame_X10_quotedAgain
set_option maxRecDepth 100000 in
theorem ggL_isBlame_X10_comesFrom : GoodIn wsL_isBlame wsX10_comesFrom := goodIn_ca (goodIn_ch ch_isBlame chi_isBlame chg_isBlame [(4, 4), (1, 8), (0, 5), (1, 9), (1, 10), (1, 11), (0, 3), (1, 12), (0, 14), (0, 15), (0, 10), (0, 11), (0, 12), (0, 13), (0, 16), (0, 17), (0, 18), (0, 19), (0, 20), (0, 21), (0, 22), (0, 23), (1, 0), (1, 1), (1, 2), (1, 3), (4, 5), (4, 6), (4, 7), (1, 16), (4, 8), (1, 18), (3, 16), (1, 14), (1, 15), (1, 17), (1, 19), (1, 20), (1, 21), (1, 22), (1, 23), (2, 0), (2, 1), (2, 2), (2, 3), (2, 4), (2, 5), (2, 6), (2, 7), (2, 8), (2, 9), (2, 10), (2, 11), (2, 12), (2, 13), (2, 14), (2, 15), (2, 16), (2, 17), (2, 18), (2, 19), (2, 20), (2, 21), (2, 22), (2, 23), (3, 0), (3, 1), (3, 2), (3, 3), (3, 4), (3, 5), (3, 6), (3, 7), (4, 9), (4, 10), (4, 11), (3, 20), (4, 12), (4, 13), (4, 14), (3, 18), (3, 19), (3, 21), (3, 22), (3, 23), (4, 0), (11, 0), (11, 1), (11, 2), (11, 3), (11, 4), (11, 5), (11, 6), (13, 0), (13, 1), (13, 2), (13, 3), (13, 4), (13, 5), (13, 6), (13, 7), (12, 0), (12, 1), (12, 2), (12, 3), (14, 0), (14, 1), (14, 2), (15, 0), (15, 1), (15, 2), (15, 3), (16, 0)] rfl) (goodIn_sub (fun _ h => List.mem_cons_of_mem _ (List.mem_append_right _ h)) (by decide +kernel))
set_option maxRecDepth 100000 in
theorem gL_isBlame_X10_comesFrom : GoodIn wsL_isBlame (wsV RL 48 RX10 yX10_comesFrom wsX10_comesFrom) := goodIn_app (goodIn_ch ch_isBlame chi_isBlame chg_isBlame [(4, 1), (4, 2), (4, 3), (0, 3)] rfl) ggL_isBlame_X10_comesFrom
set_option maxRecDepth 100000 in
theorem ggL_isBlame_L_isQuotation : GoodIn wsL_isBlame wsL_isQuotation := goodIn_ca (goodIn_ch ch_isBlame chi_isBlame chg_isBlame [(4, 18), (4, 19), (4, 20), (4, 21), (0, 3), (4, 22), (0, 5), (1, 9), (1, 10), (1, 11), (1, 12), (0, 14), (0, 15), (0, 10), (0, 11), (0, 12), (0, 13), (0, 16), (0, 17), (0, 18), (0, 19), (0, 20), (0, 21), (0, 22), (0, 23), (1, 0), (1, 1), (1, 2), (1, 3), (4, 23), (1, 21), (1, 22), (1, 23), (2, 0), (2, 1), (5, 0), (5, 1), (5, 2), (5, 3), (5, 4), (5, 5), (5, 6), (5, 7), (1, 4), (1, 5), (1, 6), (1, 7), (1, 8), (1, 13), (1, 14), (1, 15), (1, 16), (1, 17), (1, 18), (1, 19), (1, 20), (2, 2), (2, 3), (2, 4), (2, 5), (2, 6), (2, 7), (2, 8), (2, 9), (2, 10), (2, 11), (2, 12), (2, 13), (2, 14), (2, 15), (2, 16), (2, 17), (2, 18), (2, 19), (2, 20), (2, 21), (2, 22), (2, 23), (3, 0), (3, 1), (3, 2), (3, 3), (3, 4), (3, 5), (3, 6), (3, 7), (5, 8), (5, 9), (5, 10), (5, 11), (5, 12), (5, 13), (5, 14), (5, 15), (4, 1), (4, 2), (4, 3), (4, 4), (4, 5), (4, 6), (4, 7), (4, 8), (3, 16), (4, 9), (4, 10), (4, 11), (3, 20), (4, 12), (4, 13), (4, 14), (3, 18), (3, 19), (3, 21), (3, 22), (3, 23), (4, 0), (5, 16), (5, 17), (5, 18), (5, 19), (5, 20), (5, 21), (5, 22), (5, 23), (6, 0), (6, 1), (6, 2), (6, 3), (6, 4), (6, 5), (6, 6), (6, 7), (6, 8), (6, 9), (6, 10), (6, 11), (6, 12), (6, 13), (6, 14), (6, 15), (6, 16), (6, 17), (6, 18), (6, 19), (6, 20), (6, 21), (6, 22), (6, 23), (7, 0), (7, 1), (7, 2), (7, 3), (7, 4), (7, 5), (7, 6), (7, 7), (7, 8), (7, 9), (7, 10), (7, 11), (7, 12), (7, 13), (7, 14), (7, 15), (7, 16), (7, 17), (7, 18), (7, 19), (7, 20), (7, 21), (7, 22), (7, 23), (8, 0), (8, 1), (8, 2), (8, 3), (8, 4), (8, 5), (8, 6), (8, 7), (8, 8), (8, 9), (8, 10), (8, 11), (8, 12), (8, 13), (11, 0), (11, 1), (11, 2), (11, 3), (11, 4), (11, 5), (11, 6), (13, 0), (13, 1), (13, 2), (13, 3), (13, 4), (13, 5), (13, 6), (13, 7), (12, 0), (12, 1), (12, 2), (12, 3), (16, 0), (14, 0), (14, 1), (14, 2), (15, 0), (15, 1), (15, 2), (15, 3)] rfl) (goodIn_sub (fun _ h => List.mem_cons_of_mem _ (List.mem_append_right _ h)) (by decide +kernel))
set_option maxRecDepth 100000 in
theorem gL_isBlame_L_isQuotation : GoodIn wsL_isBlame (va_wsS RL 110 yL_isQuotation wsL_isQuotation) := goodIn_app (goodIn_ch ch_isBlame chi_isBlame chg_isBlame [(4, 15), (4, 16), (4, 17)] rfl) ggL_isBlame_L_isQuotation
set_option maxRecDepth 100000 in
theorem ggL_isBlame_X10_blameOf : GoodIn wsL_isBlame wsX10_blameOf := goodIn_ca (goodIn_ch ch_isBlame chi_isBlame chg_isBlame [(8, 17), (1, 8), (0, 5), (8, 18), (8, 19), (0, 3), (8, 20), (0, 14), (0, 15), (8, 21), (8, 22), (8, 23), (9, 0), (9, 1), (9, 2), (1, 16), (9, 3), (1, 19), (0, 23), (1, 0), (0, 19), (1, 1), (1, 2), (1, 3), (9, 4), (9, 5), (9, 6), (9, 7), (1, 20), (1, 21), (1, 22), (1, 23), (2, 0), (2, 1), (3, 16), (1, 14), (1, 15), (1, 17), (1, 18), (2, 2), (2, 3), (2, 4), (2, 5), (2, 6), (2, 7), (2, 8), (2, 9), (2, 10), (2, 11), (2, 12), (2, 13), (2, 14), (2, 15), (2, 16), (2, 17), (2, 18), (2, 19), (2, 20), (2, 21), (2, 22), (2, 23), (3, 0), (3, 1), (3, 2), (3, 3), (3, 4), (3, 5), (3, 6), (3, 7), (11, 0), (11, 1), (11, 2), (11, 3), (11, 4), (11, 5), (11, 6), (12, 0), (12, 1), (12, 2), (12, 3), (13, 0), (13, 1), (13, 2), (13, 3), (13, 4), (13, 5), (13, 6), (13, 7), (16, 0), (14, 0), (14, 1), (14, 2), (15, 0), (15, 1), (15, 2), (15, 3)] rfl) (goodIn_sub (fun _ h => List.mem_cons_of_mem _ (List.mem_append_right _ h)) (by decide +kernel))
set_option maxRecDepth 100000 in
theorem gL_isBlame_X10_blameOf : GoodIn wsL_isBlame (wsV RL 116 RX10 yX10_blameOf wsX10_blameOf) := goodIn_app (goodIn_ch ch_isBlame chi_isBlame chg_isBlame [(8, 14), (8, 15), (8, 16), (0, 3)] rfl) ggL_isBlame_X10_blameOf
set_option maxRecDepth 100000 in
theorem ggL_isBlame_X10_wrongs : GoodIn wsL_isBlame wsX10_wrongs := goodIn_ca (goodIn_ch ch_isBlame chi_isBlame chg_isBlame [(9, 11), (1, 8), (0, 5), (8, 18), (8, 19), (0, 3), (8, 20), (0, 14), (0, 15), (8, 21), (8, 22), (8, 23), (9, 0), (9, 1), (9, 2), (1, 16), (9, 3), (1, 19), (0, 23), (1, 0), (0, 19), (1, 1), (1, 2), (1, 3), (9, 4), (9, 5), (9, 6), (9, 7), (1, 20), (1, 21), (1, 22), (1, 23), (2, 0), (2, 1), (3, 16), (1, 14), (1, 15), (1, 17), (1, 18), (2, 2), (2, 3), (2, 4), (2, 5), (2, 6), (2, 7), (2, 8), (2, 9), (2, 10), (2, 11), (2, 12), (2, 13), (2, 14), (2, 15), (2, 16), (2, 17), (2, 18), (2, 19), (2, 20), (2, 21), (2, 22), (2, 23), (3, 0), (3, 1), (3, 2), (3, 3), (3, 4), (3, 5), (3, 6), (3, 7), (11, 0), (11, 1), (11, 2), (11, 3), (11, 4), (11, 5), (11, 6), (12, 0), (12, 1), (12, 2), (12, 3), (13, 0), (13, 1), (13, 2), (13, 3), (13, 4), (13, 5), (13, 6), (13, 7), (16, 0), (14, 0), (14, 1), (14, 2), (15, 0), (15, 1), (15, 2), (15, 3)] rfl) (goodIn_sub (fun _ h => List.mem_cons_of_mem _ (List.mem_append_right _ h)) (by decide +kernel))
set_option maxRecDepth 100000 in
theorem gL_isBlame_X10_wrongs : GoodIn wsL_isBlame (wsV RL 119 RX10 yX10_wrongs wsX10_wrongs) := goodIn_app (goodIn_ch ch_isBlame chi_isBlame chg_isBlame [(9, 8), (9, 9), (9, 10), (0, 3)] rfl) ggL_isBlame_X10_wrongs
set_option maxRecDepth 100000 in
theorem ggL_isBlame_X10_blameByAuthors : GoodIn wsL_isBlame wsX10_blameByAuthors := goodIn_ch ch_isBlame chi_isBlame chg_isBlame [(9, 15), (1, 8), (0, 5), (9, 0), (9, 1), (9, 2), (1, 16), (9, 3), (1, 19), (0, 23), (1, 0), (0, 19), (1, 1), (1, 2), (1, 3), (9, 4), (9, 5), (9, 6), (9, 7), (1, 20), (1, 21), (1, 22), (1, 23), (2, 0), (2, 1), (3, 16), (1, 14), (1, 15), (1, 17), (1, 18), (2, 2), (2, 3), (2, 4), (2, 5), (2, 6), (2, 7), (2, 8), (2, 9), (2, 10), (2, 11), (2, 12), (2, 13), (2, 14), (2, 15), (2, 16), (2, 17), (2, 18), (2, 19), (2, 20), (2, 21), (2, 22), (2, 23), (3, 0), (3, 1), (3, 2), (3, 3), (3, 4), (3, 5), (3, 6), (3, 7), (11, 0), (11, 1), (11, 2), (11, 3), (11, 4), (11, 5), (11, 6), (12, 0), (12, 1), (12, 2), (12, 3), (13, 0), (13, 1), (13, 2), (13, 3), (13, 4), (13, 5), (13, 6), (13, 7), (16, 0), (14, 0), (14, 1), (14, 2), (15, 0), (15, 1), (15, 2), (15, 3)] rfl
set_option maxRecDepth 100000 in
theorem gL_isBlame_X10_blameByAuthors : GoodIn wsL_isBlame (wsV RL 122 RX10 yX10_blameByAuthors wsX10_blameByAuthors) := goodIn_app (goodIn_ch ch_isBlame chi_isBlame chg_isBlame [(9, 12), (9, 13), (9, 14), (0, 3)] rfl) ggL_isBlame_X10_blameByAuthors
set_option maxRecDepth 100000 in
theorem ggL_isBlame_X10_blameBySources : GoodIn wsL_isBlame wsX10_blameBySources := goodIn_ch ch_isBlame chi_isBlame chg_isBlame [(9, 19), (0, 5), (1, 8), (9, 20), (9, 21), (9, 22), (1, 16), (9, 23), (1, 19), (0, 23), (1, 0), (0, 19), (1, 1), (1, 2), (1, 3), (1, 20), (1, 21), (1, 22), (1, 23), (2, 0), (2, 1), (3, 16), (1, 14), (1, 15), (1, 17), (1, 18), (2, 2), (2, 3), (2, 4), (2, 5), (2, 6), (2, 7), (2, 8), (2, 9), (2, 10), (2, 11), (2, 12), (2, 13), (2, 14), (2, 15), (2, 16), (2, 17), (2, 18), (2, 19), (2, 20), (2, 21), (2, 22), (2, 23), (3, 0), (3, 1), (3, 2), (3, 3), (3, 4), (3, 5), (3, 6), (3, 7), (11, 0), (11, 1), (11, 2), (11, 3), (11, 4), (11, 5), (11, 6), (12, 0), (12, 1), (12, 2), (12, 3), (13, 0), (13, 1), (13, 2), (13, 3), (13, 4), (13, 5), (13, 6), (13, 7), (16, 0), (14, 0), (14, 1), (14, 2), (15, 0), (15, 1), (15, 2), (15, 3)] rfl
set_option maxRecDepth 100000 in
theorem gL_isBlame_X10_blameBySources : GoodIn wsL_isBlame (wsV RL 125 RX10 yX10_blameBySources wsX10_blameBySources) := goodIn_app (goodIn_ch ch_isBlame chi_isBlame chg_isBlame [(9, 16), (9, 17), (9, 18), (0, 3)] rfl) ggL_isBlame_X10_blameBySources
set_option maxRecDepth 100000 in
theorem ggL_isBlame_X10_faithfulShare : GoodIn wsL_isBlame wsX10_faithfulShare := goodIn_ch ch_isBlame chi_isBlame chg_isBlame [(10, 3), (0, 5), (1, 8), (0, 22), (0, 23), (1, 0), (0, 19), (1, 1), (1, 2), (1, 3), (10, 4), (10, 5), (10, 6), (1, 16), (10, 7), (1, 19), (3, 16), (1, 14), (1, 15), (1, 17), (1, 18), (1, 20), (1, 21), (1, 22), (1, 23), (2, 0), (2, 1), (2, 2), (2, 3), (2, 4), (2, 5), (2, 6), (2, 7), (2, 8), (2, 9), (2, 10), (2, 11), (2, 12), (2, 13), (2, 14), (2, 15), (2, 16), (2, 17), (2, 18), (2, 19), (2, 20), (2, 21), (2, 22), (2, 23), (3, 0), (3, 1), (3, 2), (3, 3), (3, 4), (3, 5), (3, 6), (3, 7), (11, 0), (11, 1), (11, 2), (11, 3), (11, 4), (11, 5), (11, 6), (12, 0), (12, 1), (12, 2), (12, 3), (13, 0), (13, 1), (13, 2), (13, 3), (13, 4), (13, 5), (13, 6), (13, 7), (14, 0), (14, 1), (14, 2), (15, 0), (15, 1), (15, 2), (15, 3), (16, 0)] rfl
set_option maxRecDepth 100000 in
theorem gL_isBlame_X10_faithfulShare : GoodIn wsL_isBlame (wsV RL 128 RX10 yX10_faithfulShare wsX10_faithfulShare) := goodIn_app (goodIn_ch ch_isBlame chi_isBlame chg_isBlame [(10, 0), (10, 1), (10, 2), (0, 3)] rfl) ggL_isBlame_X10_faithfulShare
theorem dL_isBlame_0 : decode cL_isBlame 0 = .ok (.iconst 0, 1) := by decide +kernel
theorem dL_isBlame_1 : decode cL_isBlame 1 = .ok (.istore_n 1, 1) := by decide +kernel
theorem dL_isBlame_2 : decode cL_isBlame 2 = .ok (.iconst 0, 1) := by decide +kernel
theorem dL_isBlame_3 : decode cL_isBlame 3 = .ok (.istore_n 2, 1) := by decide +kernel
theorem dL_isBlame_4 : decode cL_isBlame 4 = .ok (.iconst 0, 1) := by decide +kernel
theorem dL_isBlame_5 : decode cL_isBlame 5 = .ok (.istore_n 3, 1) := by decide +kernel
theorem dL_isBlame_6 : decode cL_isBlame 6 = .ok (.iconst 0, 1) := by decide +kernel
theorem dL_isBlame_7 : decode cL_isBlame 7 = .ok (.istore 4, 2) := by decide +kernel
theorem dL_isBlame_9 : decode cL_isBlame 9 = .ok (.iconst 0, 1) := by decide +kernel
theorem dL_isBlame_10 : decode cL_isBlame 10 = .ok (.istore 5, 2) := by decide +kernel
theorem dL_isBlame_12 : decode cL_isBlame 12 = .ok (.iconst 0, 1) := by decide +kernel
theorem dL_isBlame_13 : decode cL_isBlame 13 = .ok (.istore 6, 2) := by decide +kernel
theorem dL_isBlame_15 : decode cL_isBlame 15 = .ok (.iload 6, 2) := by decide +kernel
theorem dL_isBlame_17 : decode cL_isBlame 17 = .ok (.aload_n 0, 1) := by decide +kernel
theorem dL_isBlame_18 : decode cL_isBlame 18 = .ok (.invokevirtual 79, 3) := by decide +kernel
theorem dL_isBlame_21 : decode cL_isBlame 21 = .ok (.if_icmp .ge 108, 3) := by decide +kernel
theorem dL_isBlame_24 : decode cL_isBlame 24 = .ok (.iconst 0, 1) := by decide +kernel
theorem dL_isBlame_25 : decode cL_isBlame 25 = .ok (.istore 7, 2) := by decide +kernel
theorem dL_isBlame_27 : decode cL_isBlame 27 = .ok (.iload 7, 2) := by decide +kernel
theorem dL_isBlame_29 : decode cL_isBlame 29 = .ok (.aload_n 0, 1) := by decide +kernel
theorem dL_isBlame_30 : decode cL_isBlame 30 = .ok (.iload 6, 2) := by decide +kernel
theorem dL_isBlame_32 : decode cL_isBlame 32 = .ok (.invokevirtual 82, 3) := by decide +kernel
theorem dL_isBlame_35 : decode cL_isBlame 35 = .ok (.if_icmp .ge 88, 3) := by decide +kernel
theorem dL_isBlame_38 : decode cL_isBlame 38 = .ok (.aload_n 0, 1) := by decide +kernel
theorem dL_isBlame_39 : decode cL_isBlame 39 = .ok (.iload 6, 2) := by decide +kernel
theorem dL_isBlame_41 : decode cL_isBlame 41 = .ok (.iload 7, 2) := by decide +kernel
theorem dL_isBlame_43 : decode cL_isBlame 43 = .ok (.invokevirtual 39, 3) := by decide +kernel
theorem dL_isBlame_46 : decode cL_isBlame 46 = .ok (.istore 8, 2) := by decide +kernel
theorem dL_isBlame_48 : decode cL_isBlame 48 = .ok (.iinc 1 1, 3) := by decide +kernel
theorem dL_isBlame_51 : decode cL_isBlame 51 = .ok (.iload_n 2, 1) := by decide +kernel
theorem dL_isBlame_52 : decode cL_isBlame 52 = .ok (.iload 8, 2) := by decide +kernel
theorem dL_isBlame_54 : decode cL_isBlame 54 = .ok (.ifCond .ne 7, 3) := by decide +kernel
theorem dL_isBlame_57 : decode cL_isBlame 57 = .ok (.iconst 1, 1) := by decide +kernel
theorem dL_isBlame_58 : decode cL_isBlame 58 = .ok (.goto 4, 3) := by decide +kernel
theorem dL_isBlame_61 : decode cL_isBlame 61 = .ok (.iconst 0, 1) := by decide +kernel
theorem dL_isBlame_62 : decode cL_isBlame 62 = .ok (.iadd, 1) := by decide +kernel
theorem dL_isBlame_63 : decode cL_isBlame 63 = .ok (.istore_n 2, 1) := by decide +kernel
theorem dL_isBlame_64 : decode cL_isBlame 64 = .ok (.iload_n 3, 1) := by decide +kernel
theorem dL_isBlame_65 : decode cL_isBlame 65 = .ok (.iload 8, 2) := by decide +kernel
theorem dL_isBlame_67 : decode cL_isBlame 67 = .ok (.iadd, 1) := by decide +kernel
theorem dL_isBlame_68 : decode cL_isBlame 68 = .ok (.istore_n 3, 1) := by decide +kernel
theorem dL_isBlame_69 : decode cL_isBlame 69 = .ok (.iload 4, 2) := by decide +kernel
theorem dL_isBlame_71 : decode cL_isBlame 71 = .ok (.aload_n 0, 1) := by decide +kernel
theorem dL_isBlame_72 : decode cL_isBlame 72 = .ok (.iload 6, 2) := by decide +kernel
theorem dL_isBlame_74 : decode cL_isBlame 74 = .ok (.iload 7, 2) := by decide +kernel
theorem dL_isBlame_76 : decode cL_isBlame 76 = .ok (.invokevirtual 107, 3) := by decide +kernel
theorem dL_isBlame_79 : decode cL_isBlame 79 = .ok (.iadd, 1) := by decide +kernel
theorem dL_isBlame_80 : decode cL_isBlame 80 = .ok (.istore 4, 2) := by decide +kernel
theorem dL_isBlame_82 : decode cL_isBlame 82 = .ok (.iload 5, 2) := by decide +kernel
theorem dL_isBlame_84 : decode cL_isBlame 84 = .ok (.aload_n 0, 1) := by decide +kernel
theorem dL_isBlame_85 : decode cL_isBlame 85 = .ok (.iload 6, 2) := by decide +kernel
theorem dL_isBlame_87 : decode cL_isBlame 87 = .ok (.iload 7, 2) := by decide +kernel
theorem dL_isBlame_89 : decode cL_isBlame 89 = .ok (.invokevirtual 48, 3) := by decide +kernel
theorem dL_isBlame_92 : decode cL_isBlame 92 = .ok (.iconst (-1), 1) := by decide +kernel
theorem dL_isBlame_93 : decode cL_isBlame 93 = .ok (.if_icmp .ne 7, 3) := by decide +kernel
theorem dL_isBlame_96 : decode cL_isBlame 96 = .ok (.iconst 0, 1) := by decide +kernel
theorem dL_isBlame_97 : decode cL_isBlame 97 = .ok (.goto 4, 3) := by decide +kernel
theorem dL_isBlame_100 : decode cL_isBlame 100 = .ok (.iconst 1, 1) := by decide +kernel
theorem dL_isBlame_101 : decode cL_isBlame 101 = .ok (.iadd, 1) := by decide +kernel
theorem dL_isBlame_102 : decode cL_isBlame 102 = .ok (.istore 5, 2) := by decide +kernel
theorem dL_isBlame_104 : decode cL_isBlame 104 = .ok (.aload_n 0, 1) := by decide +kernel
theorem dL_isBlame_105 : decode cL_isBlame 105 = .ok (.iload 6, 2) := by decide +kernel
theorem dL_isBlame_107 : decode cL_isBlame 107 = .ok (.iload 7, 2) := by decide +kernel
theorem dL_isBlame_109 : decode cL_isBlame 109 = .ok (.invokestatic 110, 3) := by decide +kernel
theorem dL_isBlame_112 : decode cL_isBlame 112 = .ok (.ifCond .ne 5, 3) := by decide +kernel
theorem dL_isBlame_115 : decode cL_isBlame 115 = .ok (.iconst 0, 1) := by decide +kernel
theorem dL_isBlame_116 : decode cL_isBlame 116 = .ok (.ireturn, 1) := by decide +kernel
theorem dL_isBlame_117 : decode cL_isBlame 117 = .ok (.iinc 7 1, 3) := by decide +kernel
theorem dL_isBlame_120 : decode cL_isBlame 120 = .ok (.goto (-93), 3) := by decide +kernel
theorem dL_isBlame_123 : decode cL_isBlame 123 = .ok (.iinc 6 1, 3) := by decide +kernel
theorem dL_isBlame_126 : decode cL_isBlame 126 = .ok (.goto (-111), 3) := by decide +kernel
theorem dL_isBlame_129 : decode cL_isBlame 129 = .ok (.iconst 0, 1) := by decide +kernel
theorem dL_isBlame_130 : decode cL_isBlame 130 = .ok (.istore 6, 2) := by decide +kernel
theorem dL_isBlame_132 : decode cL_isBlame 132 = .ok (.iconst 0, 1) := by decide +kernel
theorem dL_isBlame_133 : decode cL_isBlame 133 = .ok (.istore 7, 2) := by decide +kernel
theorem dL_isBlame_135 : decode cL_isBlame 135 = .ok (.iconst 0, 1) := by decide +kernel
theorem dL_isBlame_136 : decode cL_isBlame 136 = .ok (.istore 8, 2) := by decide +kernel
theorem dL_isBlame_138 : decode cL_isBlame 138 = .ok (.iload 8, 2) := by decide +kernel
theorem dL_isBlame_140 : decode cL_isBlame 140 = .ok (.bipush 8, 2) := by decide +kernel
theorem dL_isBlame_142 : decode cL_isBlame 142 = .ok (.if_icmp .ge 49, 3) := by decide +kernel
theorem dL_isBlame_145 : decode cL_isBlame 145 = .ok (.iload 6, 2) := by decide +kernel
theorem dL_isBlame_147 : decode cL_isBlame 147 = .ok (.aload_n 0, 1) := by decide +kernel
theorem dL_isBlame_148 : decode cL_isBlame 148 = .ok (.iload 8, 2) := by decide +kernel
theorem dL_isBlame_150 : decode cL_isBlame 150 = .ok (.invokevirtual 116, 3) := by decide +kernel
theorem dL_isBlame_153 : decode cL_isBlame 153 = .ok (.iadd, 1) := by decide +kernel
theorem dL_isBlame_154 : decode cL_isBlame 154 = .ok (.istore 6, 2) := by decide +kernel
theorem dL_isBlame_156 : decode cL_isBlame 156 = .ok (.iconst 0, 1) := by decide +kernel
theorem dL_isBlame_157 : decode cL_isBlame 157 = .ok (.istore 9, 2) := by decide +kernel
theorem dL_isBlame_159 : decode cL_isBlame 159 = .ok (.iload 9, 2) := by decide +kernel
theorem dL_isBlame_161 : decode cL_isBlame 161 = .ok (.bipush 8, 2) := by decide +kernel
theorem dL_isBlame_163 : decode cL_isBlame 163 = .ok (.if_icmp .ge 22, 3) := by decide +kernel
theorem dL_isBlame_166 : decode cL_isBlame 166 = .ok (.iload 7, 2) := by decide +kernel
theorem dL_isBlame_168 : decode cL_isBlame 168 = .ok (.aload_n 0, 1) := by decide +kernel
theorem dL_isBlame_169 : decode cL_isBlame 169 = .ok (.iload 8, 2) := by decide +kernel
theorem dL_isBlame_171 : decode cL_isBlame 171 = .ok (.iload 9, 2) := by decide +kernel
theorem dL_isBlame_173 : decode cL_isBlame 173 = .ok (.invokevirtual 119, 3) := by decide +kernel
theorem dL_isBlame_176 : decode cL_isBlame 176 = .ok (.iadd, 1) := by decide +kernel
theorem dL_isBlame_177 : decode cL_isBlame 177 = .ok (.istore 7, 2) := by decide +kernel
theorem dL_isBlame_179 : decode cL_isBlame 179 = .ok (.iinc 9 1, 3) := by decide +kernel
theorem dL_isBlame_182 : decode cL_isBlame 182 = .ok (.goto (-23), 3) := by decide +kernel
theorem dL_isBlame_185 : decode cL_isBlame 185 = .ok (.iinc 8 1, 3) := by decide +kernel
theorem dL_isBlame_188 : decode cL_isBlame 188 = .ok (.goto (-50), 3) := by decide +kernel
theorem dL_isBlame_191 : decode cL_isBlame 191 = .ok (.iload 6, 2) := by decide +kernel
theorem dL_isBlame_193 : decode cL_isBlame 193 = .ok (.iload_n 3, 1) := by decide +kernel
theorem dL_isBlame_194 : decode cL_isBlame 194 = .ok (.if_icmp .ne 57, 3) := by decide +kernel
theorem dL_isBlame_197 : decode cL_isBlame 197 = .ok (.iload 7, 2) := by decide +kernel
theorem dL_isBlame_199 : decode cL_isBlame 199 = .ok (.iload_n 3, 1) := by decide +kernel
theorem dL_isBlame_200 : decode cL_isBlame 200 = .ok (.if_icmp .ne 51, 3) := by decide +kernel
theorem dL_isBlame_203 : decode cL_isBlame 203 = .ok (.aload_n 0, 1) := by decide +kernel
theorem dL_isBlame_204 : decode cL_isBlame 204 = .ok (.invokevirtual 122, 3) := by decide +kernel
theorem dL_isBlame_207 : decode cL_isBlame 207 = .ok (.iload_n 3, 1) := by decide +kernel
theorem dL_isBlame_208 : decode cL_isBlame 208 = .ok (.if_icmp .ne 43, 3) := by decide +kernel
theorem dL_isBlame_211 : decode cL_isBlame 211 = .ok (.aload_n 0, 1) := by decide +kernel
theorem dL_isBlame_212 : decode cL_isBlame 212 = .ok (.invokevirtual 125, 3) := by decide +kernel
theorem dL_isBlame_215 : decode cL_isBlame 215 = .ok (.iload_n 3, 1) := by decide +kernel
theorem dL_isBlame_216 : decode cL_isBlame 216 = .ok (.if_icmp .ne 35, 3) := by decide +kernel
theorem dL_isBlame_219 : decode cL_isBlame 219 = .ok (.iload 4, 2) := by decide +kernel
theorem dL_isBlame_221 : decode cL_isBlame 221 = .ok (.iload 5, 2) := by decide +kernel
theorem dL_isBlame_223 : decode cL_isBlame 223 = .ok (.if_icmp .ne 28, 3) := by decide +kernel
theorem dL_isBlame_226 : decode cL_isBlame 226 = .ok (.aload_n 0, 1) := by decide +kernel
theorem dL_isBlame_227 : decode cL_isBlame 227 = .ok (.invokevirtual 128, 3) := by decide +kernel
theorem dL_isBlame_230 : decode cL_isBlame 230 = .ok (.iload_n 1, 1) := by decide +kernel
theorem dL_isBlame_231 : decode cL_isBlame 231 = .ok (.ifCond .ne 7, 3) := by decide +kernel
theorem dL_isBlame_234 : decode cL_isBlame 234 = .ok (.dconst 0, 1) := by decide +kernel
theorem dL_isBlame_235 : decode cL_isBlame 235 = .ok (.goto 8, 3) := by decide +kernel
theorem dL_isBlame_238 : decode cL_isBlame 238 = .ok (.iload_n 2, 1) := by decide +kernel
theorem dL_isBlame_239 : decode cL_isBlame 239 = .ok (.i2d, 1) := by decide +kernel
theorem dL_isBlame_240 : decode cL_isBlame 240 = .ok (.iload_n 1, 1) := by decide +kernel
theorem dL_isBlame_241 : decode cL_isBlame 241 = .ok (.i2d, 1) := by decide +kernel
theorem dL_isBlame_242 : decode cL_isBlame 242 = .ok (.ddiv, 1) := by decide +kernel
theorem dL_isBlame_243 : decode cL_isBlame 243 = .ok (.dcmp .l, 1) := by decide +kernel
theorem dL_isBlame_244 : decode cL_isBlame 244 = .ok (.ifCond .ne 7, 3) := by decide +kernel
theorem dL_isBlame_247 : decode cL_isBlame 247 = .ok (.iconst 1, 1) := by decide +kernel
theorem dL_isBlame_248 : decode cL_isBlame 248 = .ok (.goto 4, 3) := by decide +kernel
theorem dL_isBlame_251 : decode cL_isBlame 251 = .ok (.iconst 0, 1) := by decide +kernel
theorem dL_isBlame_252 : decode cL_isBlame 252 = .ok (.ireturn, 1) := by decide +kernel
def ch_isGlossary : List (List Cond) := [wsL_isGlossary_r1, wsL_isGlossary_r2, wsL_isGlossary_r3, wsL_isGlossary_r4, wsX100, wsX10, wsX90, wsX40, wsX70]
theorem chm_isGlossary_0 : ∀ w ∈ wsL_isGlossary_r1, w ∈ wsL_isGlossary := fun w h => List.mem_cons_of_mem _ (List.mem_append_left _ (List.mem_append_left _ (List.mem_append_left _ (List.mem_append_left _ (List.mem_append_left _ (List.mem_append_left _ (List.mem_append_left _ h)))))))
theorem chm_isGlossary_1 : ∀ w ∈ wsL_isGlossary_r2, w ∈ wsL_isGlossary := fun w h => List.mem_cons_of_mem _ (List.mem_append_left _ (List.mem_append_left _ (List.mem_append_left _ (List.mem_append_left _ (List.mem_append_left _ (List.mem_append_left _ (List.mem_append_right _ (List.mem_append_left _ h))))))))
theorem chm_isGlossary_2 : ∀ w ∈ wsL_isGlossary_r3, w ∈ wsL_isGlossary := fun w h => List.mem_cons_of_mem _ (List.mem_append_left _ (List.mem_append_left _ (List.mem_append_left _ (List.mem_append_left _ (List.mem_append_left _ (List.mem_append_left _ (List.mem_append_right _ (List.mem_append_right _ (List.mem_append_left _ h)))))))))
theorem chm_isGlossary_3 : ∀ w ∈ wsL_isGlossary_r4, w ∈ wsL_isGlossary := fun w h => List.mem_cons_of_mem _ (List.mem_append_left _ (List.mem_append_left _ (List.mem_append_left _ (List.mem_append_left _ (List.mem_append_left _ (List.mem_append_left _ (List.mem_append_right _ (List.mem_append_right _ (List.mem_append_right _ h)))))))))
theorem chm_isGlossary_4 : ∀ w ∈ wsX100, w ∈ wsL_isGlossary := fun w h => List.mem_cons_of_mem _ (List.mem_append_left _ (List.mem_append_left _ (List.mem_append_left _ (List.mem_append_left _ (List.mem_append_left _ (List.mem_append_right _ h))))))
theorem chm_isGlossary_5 : ∀ w ∈ wsX10, w ∈ wsL_isGlossary := fun w h => List.mem_cons_of_mem _ (List.mem_append_left _ (List.mem_append_left _ (List.mem_append_left _ (List.mem_append_left _ (List.mem_append_right _ h)))))
theorem chm_isGlossary_6 : ∀ w ∈ wsX90, w ∈ wsL_isGlossary := fun w h => List.mem_cons_of_mem _ (List.mem_append_left _ (List.mem_append_left _ (List.mem_append_left _ (List.mem_append_right _ h))))
theorem chm_isGlossary_7 : ∀ w ∈ wsX40, w ∈ wsL_isGlossary := fun w h => List.mem_cons_of_mem _ (List.mem_append_left _ (List.mem_append_left _ (List.mem_append_right _ h)))
theorem chm_isGlossary_8 : ∀ w ∈ wsX70, w ∈ wsL_isGlossary := fun w h => List.mem_cons_of_mem _ (List.mem_append_left _ (List.mem_append_right _ h))
theorem chi_isGlossary : ∀ c ∈ ch_isGlossary, ∀ w ∈ c, w ∈ wsL_isGlossary := (List.forall_mem_cons.mpr ⟨chm_isGlossary_0, (List.forall_mem_cons.mpr ⟨chm_isGlossary_1, (List.forall_mem_cons.mpr ⟨chm_isGlossary_2, (List.forall_mem_cons.mpr ⟨chm_isGlossary_3, (List.forall_mem_cons.mpr ⟨chm_isGlossary_4, (List.forall_mem_cons.mpr ⟨chm_isGlossary_5, (List.forall_mem_cons.mpr ⟨chm_isGlossary_6, (List.forall_mem_cons.mpr ⟨chm_isGlossary_7, (List.forall_mem_cons.mpr ⟨chm_isGlossary_8, (fun _ h => absurd h List.not_mem_nil)⟩)⟩)⟩)⟩)⟩)⟩)⟩)⟩)⟩)
set_option maxRecDepth 100000 in
theorem chg_isGlossary : wsL_isGlossary.all goodWord = true := by decide +kernel
set_option maxRecDepth 100000 in
theorem ggL_isGlossary_X10_glossary : GoodIn wsL_isGlossary wsX10_glossary := goodIn_ch ch_isGlossary chi_isGlossary chg_isGlossary [(0, 4), (0, 5), (0, 6), (0, 7), (0, 8), (0, 9), (0, 10), (0, 11), (0, 12), (0, 13), (0, 14), (0, 15), (0, 16), (0, 17), (0, 18), (0, 19), (0, 20), (0, 21), (0, 22), (0, 23), (1, 0), (1, 1), (1, 2), (1, 3), (1, 4), (1, 5), (1, 6), (1, 7), (1, 8), (1, 9), (1, 10), (1, 11), (1, 12), (1, 13), (1, 14), (1, 15), (1, 16), (1, 17), (1, 18), (1, 19), (1, 20), (1, 21), (1, 22), (1, 23), (4, 0), (4, 1), (4, 2), (4, 3), (4, 4), (4, 5), (4, 6), (5, 0), (5, 1), (5, 2), (6, 0), (6, 1), (6, 2), (6, 3), (7, 0), (7, 1), (7, 2), (7, 3), (7, 4), (7, 5), (7, 6), (7, 7), (8, 0)] rfl
set_option maxRecDepth 100000 in
theorem gL_isGlossary_X10_glossary : GoodIn wsL_isGlossary (wsV RL 132 RX10 yX10_glossary wsX10_glossary) := goodIn_app (goodIn_ch ch_isGlossary chi_isGlossary chg_isGlossary [(0, 0), (0, 1), (0, 2), (0, 3)] rfl) ggL_isGlossary_X10_glossary
set_option maxRecDepth 100000 in
theorem ggL_isGlossary_X10_pamphlets : GoodIn wsL_isGlossary wsX10_pamphlets := goodIn_ch ch_isGlossary chi_isGlossary chg_isGlossary [(2, 3), (0, 6), (4, 0), (4, 1), (4, 2), (4, 3), (4, 4), (4, 5), (4, 6), (6, 0), (6, 1), (6, 2), (6, 3)] rfl
set_option maxRecDepth 100000 in
theorem gL_isGlossary_X10_pamphlets : GoodIn wsL_isGlossary (wsV RL 79 RX10 yX10_pamphlets wsX10_pamphlets) := goodIn_app (goodIn_ch ch_isGlossary chi_isGlossary chg_isGlossary [(2, 0), (2, 1), (2, 2), (0, 3)] rfl) ggL_isGlossary_X10_pamphlets
set_option maxRecDepth 100000 in
theorem ggL_isGlossary_X10_wordsOf : GoodIn wsL_isGlossary wsX10_wordsOf := goodIn_ca (goodIn_ch ch_isGlossary chi_isGlossary chg_isGlossary [(2, 7), (0, 6), (2, 8), (2, 9), (2, 10), (0, 3), (2, 11), (2, 12), (2, 13), (2, 14), (2, 15), (2, 16), (0, 16), (2, 17), (2, 18), (2, 19), (0, 14), (0, 15), (0, 17), (0, 18), (0, 19), (4, 0), (4, 1), (4, 2), (4, 3), (4, 4), (4, 5), (4, 6), (7, 0), (7, 1), (7, 2), (7, 3), (7, 4), (7, 5), (7, 6), (7, 7), (6, 0), (6, 1), (6, 2), (6, 3)] rfl) (goodIn_sub (fun _ h => List.mem_cons_of_mem _ (List.mem_append_right _ h)) (by decide +kernel))
set_option maxRecDepth 100000 in
theorem gL_isGlossary_X10_wordsOf : GoodIn wsL_isGlossary (wsV RL 60 RX10 yX10_wordsOf wsX10_wordsOf) := goodIn_app (goodIn_ch ch_isGlossary chi_isGlossary chg_isGlossary [(2, 4), (2, 5), (2, 6), (0, 3)] rfl) ggL_isGlossary_X10_wordsOf
set_option maxRecDepth 100000 in
theorem ggL_isGlossary_X10_timesOf : GoodIn wsL_isGlossary wsX10_timesOf := goodIn_ca (goodIn_ch ch_isGlossary chi_isGlossary chg_isGlossary [(2, 23), (0, 5), (0, 6), (0, 7), (0, 8), (0, 9), (0, 10), (0, 11), (0, 12), (0, 13), (0, 14), (0, 15), (0, 16), (0, 17), (0, 18), (0, 19), (0, 20), (0, 21), (0, 22), (0, 23), (1, 0), (1, 1), (1, 2), (1, 3), (1, 4), (1, 5), (1, 6), (1, 7), (1, 8), (1, 9), (1, 10), (1, 11), (1, 12), (1, 13), (1, 14), (1, 15), (1, 16), (1, 17), (1, 18), (1, 19), (1, 20), (1, 21), (1, 22), (1, 23), (3, 0), (3, 1), (0, 3), (3, 2), (2, 12), (2, 13), (3, 3), (4, 0), (4, 1), (4, 2), (4, 3), (4, 4), (4, 5), (4, 6), (5, 0), (5, 1), (5, 2), (6, 0), (6, 1), (6, 2), (6, 3), (7, 0), (7, 1), (7, 2), (7, 3), (7, 4), (7, 5), (7, 6), (7, 7), (8, 0)] rfl) (goodIn_sub (fun _ h => List.mem_cons_of_mem _ (List.mem_append_right _ h)) (by decide +kernel))
set_option maxRecDepth 100000 in
theorem gL_isGlossary_X10_timesOf : GoodIn wsL_isGlossary (wsV RL 135 RX10 yX10_timesOf wsX10_timesOf) := goodIn_app (goodIn_ch ch_isGlossary chi_isGlossary chg_isGlossary [(2, 20), (2, 21), (2, 22), (0, 3)] rfl) ggL_isGlossary_X10_timesOf
set_option maxRecDepth 100000 in
theorem ggL_isGlossary_X10_glossaryLetter : GoodIn wsL_isGlossary wsX10_glossaryLetter := goodIn_ca (goodIn_ch ch_isGlossary chi_isGlossary chg_isGlossary [(3, 7), (0, 5), (0, 6), (0, 7), (0, 8), (0, 9), (0, 10), (0, 11), (0, 12), (0, 13), (0, 14), (0, 15), (0, 16), (0, 17), (0, 18), (0, 19), (0, 20), (0, 21), (0, 22), (0, 23), (1, 0), (1, 1), (1, 2), (1, 3), (1, 4), (1, 5), (1, 6), (1, 7), (1, 8), (1, 9), (1, 10), (1, 11), (1, 12), (1, 13), (1, 14), (1, 15), (1, 16), (1, 17), (1, 18), (1, 19), (1, 20), (1, 21), (1, 22), (1, 23), (3, 0), (3, 1), (0, 3), (3, 2), (2, 12), (2, 13), (3, 8), (3, 9), (3, 10), (3, 11), (3, 12), (3, 13), (3, 14), (4, 0), (4, 1), (4, 2), (4, 3), (4, 4), (4, 5), (4, 6), (5, 0), (5, 1), (5, 2), (6, 0), (6, 1), (6, 2), (6, 3), (7, 0), (7, 1), (7, 2), (7, 3), (7, 4), (7, 5), (7, 6), (7, 7), (8, 0)] rfl) (goodIn_sub (fun _ h => List.mem_cons_of_mem _ (List.mem_append_right _ h)) (by decide +kernel))
set_option maxRecDepth 100000 in
theorem gL_isGlossary_X10_glossaryLetter : GoodIn wsL_isGlossary (wsV RL 138 RX10 yX10_glossaryLetter wsX10_glossaryLetter) := goodIn_app (goodIn_ch ch_isGlossary chi_isGlossary chg_isGlossary [(3, 4), (3, 5), (3, 6), (0, 3)] rfl) ggL_isGlossary_X10_glossaryLetter
theorem dL_isGlossary_0 : decode cL_isGlossary 0 = .ok (.aload_n 0, 1) := by decide +kernel
theorem dL_isGlossary_1 : decode cL_isGlossary 1 = .ok (.invokevirtual 132, 3) := by decide +kernel
theorem dL_isGlossary_4 : decode cL_isGlossary 4 = .ok (.istore_n 1, 1) := by decide +kernel
theorem dL_isGlossary_5 : decode cL_isGlossary 5 = .ok (.iconst 0, 1) := by decide +kernel
theorem dL_isGlossary_6 : decode cL_isGlossary 6 = .ok (.istore_n 2, 1) := by decide +kernel
theorem dL_isGlossary_7 : decode cL_isGlossary 7 = .ok (.iconst 0, 1) := by decide +kernel
theorem dL_isGlossary_8 : decode cL_isGlossary 8 = .ok (.istore_n 3, 1) := by decide +kernel
theorem dL_isGlossary_9 : decode cL_isGlossary 9 = .ok (.iconst 0, 1) := by decide +kernel
theorem dL_isGlossary_10 : decode cL_isGlossary 10 = .ok (.istore 4, 2) := by decide +kernel
theorem dL_isGlossary_12 : decode cL_isGlossary 12 = .ok (.iload 4, 2) := by decide +kernel
theorem dL_isGlossary_14 : decode cL_isGlossary 14 = .ok (.aload_n 0, 1) := by decide +kernel
theorem dL_isGlossary_15 : decode cL_isGlossary 15 = .ok (.invokevirtual 79, 3) := by decide +kernel
theorem dL_isGlossary_18 : decode cL_isGlossary 18 = .ok (.if_icmp .ge 18, 3) := by decide +kernel
theorem dL_isGlossary_21 : decode cL_isGlossary 21 = .ok (.iload_n 2, 1) := by decide +kernel
theorem dL_isGlossary_22 : decode cL_isGlossary 22 = .ok (.aload_n 0, 1) := by decide +kernel
theorem dL_isGlossary_23 : decode cL_isGlossary 23 = .ok (.iload 4, 2) := by decide +kernel
theorem dL_isGlossary_25 : decode cL_isGlossary 25 = .ok (.invokevirtual 60, 3) := by decide +kernel
theorem dL_isGlossary_28 : decode cL_isGlossary 28 = .ok (.iadd, 1) := by decide +kernel
theorem dL_isGlossary_29 : decode cL_isGlossary 29 = .ok (.istore_n 2, 1) := by decide +kernel
theorem dL_isGlossary_30 : decode cL_isGlossary 30 = .ok (.iinc 4 1, 3) := by decide +kernel
theorem dL_isGlossary_33 : decode cL_isGlossary 33 = .ok (.goto (-21), 3) := by decide +kernel
theorem dL_isGlossary_36 : decode cL_isGlossary 36 = .ok (.iconst 0, 1) := by decide +kernel
theorem dL_isGlossary_37 : decode cL_isGlossary 37 = .ok (.istore 4, 2) := by decide +kernel
theorem dL_isGlossary_39 : decode cL_isGlossary 39 = .ok (.iload 4, 2) := by decide +kernel
theorem dL_isGlossary_41 : decode cL_isGlossary 41 = .ok (.iload_n 1, 1) := by decide +kernel
theorem dL_isGlossary_42 : decode cL_isGlossary 42 = .ok (.if_icmp .ge 168, 3) := by decide +kernel
theorem dL_isGlossary_45 : decode cL_isGlossary 45 = .ok (.aload_n 0, 1) := by decide +kernel
theorem dL_isGlossary_46 : decode cL_isGlossary 46 = .ok (.iload 4, 2) := by decide +kernel
theorem dL_isGlossary_48 : decode cL_isGlossary 48 = .ok (.invokevirtual 135, 3) := by decide +kernel
theorem dL_isGlossary_51 : decode cL_isGlossary 51 = .ok (.istore 5, 2) := by decide +kernel
theorem dL_isGlossary_53 : decode cL_isGlossary 53 = .ok (.iload_n 3, 1) := by decide +kernel
theorem dL_isGlossary_54 : decode cL_isGlossary 54 = .ok (.iload 5, 2) := by decide +kernel
theorem dL_isGlossary_56 : decode cL_isGlossary 56 = .ok (.iadd, 1) := by decide +kernel
theorem dL_isGlossary_57 : decode cL_isGlossary 57 = .ok (.istore_n 3, 1) := by decide +kernel
theorem dL_isGlossary_58 : decode cL_isGlossary 58 = .ok (.iload 4, 2) := by decide +kernel
theorem dL_isGlossary_60 : decode cL_isGlossary 60 = .ok (.ifCond .eq 16, 3) := by decide +kernel
theorem dL_isGlossary_63 : decode cL_isGlossary 63 = .ok (.aload_n 0, 1) := by decide +kernel
theorem dL_isGlossary_64 : decode cL_isGlossary 64 = .ok (.iload 4, 2) := by decide +kernel
theorem dL_isGlossary_66 : decode cL_isGlossary 66 = .ok (.iconst 1, 1) := by decide +kernel
theorem dL_isGlossary_67 : decode cL_isGlossary 67 = .ok (.isub, 1) := by decide +kernel
theorem dL_isGlossary_68 : decode cL_isGlossary 68 = .ok (.invokevirtual 135, 3) := by decide +kernel
theorem dL_isGlossary_71 : decode cL_isGlossary 71 = .ok (.iload 5, 2) := by decide +kernel
theorem dL_isGlossary_73 : decode cL_isGlossary 73 = .ok (.if_icmp .le 7, 3) := by decide +kernel
theorem dL_isGlossary_76 : decode cL_isGlossary 76 = .ok (.iconst 1, 1) := by decide +kernel
theorem dL_isGlossary_77 : decode cL_isGlossary 77 = .ok (.goto 4, 3) := by decide +kernel
theorem dL_isGlossary_80 : decode cL_isGlossary 80 = .ok (.iconst 0, 1) := by decide +kernel
theorem dL_isGlossary_81 : decode cL_isGlossary 81 = .ok (.istore 6, 2) := by decide +kernel
theorem dL_isGlossary_83 : decode cL_isGlossary 83 = .ok (.iconst 0, 1) := by decide +kernel
theorem dL_isGlossary_84 : decode cL_isGlossary 84 = .ok (.istore 7, 2) := by decide +kernel
theorem dL_isGlossary_86 : decode cL_isGlossary 86 = .ok (.iload 7, 2) := by decide +kernel
theorem dL_isGlossary_88 : decode cL_isGlossary 88 = .ok (.bipush 7, 2) := by decide +kernel
theorem dL_isGlossary_90 : decode cL_isGlossary 90 = .ok (.if_icmp .ge 59, 3) := by decide +kernel
theorem dL_isGlossary_93 : decode cL_isGlossary 93 = .ok (.iload 6, 2) := by decide +kernel
theorem dL_isGlossary_95 : decode cL_isGlossary 95 = .ok (.ifCond .ne 54, 3) := by decide +kernel
theorem dL_isGlossary_98 : decode cL_isGlossary 98 = .ok (.aload_n 0, 1) := by decide +kernel
theorem dL_isGlossary_99 : decode cL_isGlossary 99 = .ok (.iload 4, 2) := by decide +kernel
theorem dL_isGlossary_101 : decode cL_isGlossary 101 = .ok (.iconst 1, 1) := by decide +kernel
theorem dL_isGlossary_102 : decode cL_isGlossary 102 = .ok (.isub, 1) := by decide +kernel
theorem dL_isGlossary_103 : decode cL_isGlossary 103 = .ok (.iload 7, 2) := by decide +kernel
theorem dL_isGlossary_105 : decode cL_isGlossary 105 = .ok (.invokevirtual 138, 3) := by decide +kernel
theorem dL_isGlossary_108 : decode cL_isGlossary 108 = .ok (.istore 8, 2) := by decide +kernel
theorem dL_isGlossary_110 : decode cL_isGlossary 110 = .ok (.aload_n 0, 1) := by decide +kernel
theorem dL_isGlossary_111 : decode cL_isGlossary 111 = .ok (.iload 4, 2) := by decide +kernel
theorem dL_isGlossary_113 : decode cL_isGlossary 113 = .ok (.iload 7, 2) := by decide +kernel
theorem dL_isGlossary_115 : decode cL_isGlossary 115 = .ok (.invokevirtual 138, 3) := by decide +kernel
theorem dL_isGlossary_118 : decode cL_isGlossary 118 = .ok (.istore 9, 2) := by decide +kernel
theorem dL_isGlossary_120 : decode cL_isGlossary 120 = .ok (.iload 8, 2) := by decide +kernel
theorem dL_isGlossary_122 : decode cL_isGlossary 122 = .ok (.iload 9, 2) := by decide +kernel
theorem dL_isGlossary_124 : decode cL_isGlossary 124 = .ok (.if_icmp .le 5, 3) := by decide +kernel
theorem dL_isGlossary_127 : decode cL_isGlossary 127 = .ok (.iconst 0, 1) := by decide +kernel
theorem dL_isGlossary_128 : decode cL_isGlossary 128 = .ok (.ireturn, 1) := by decide +kernel
theorem dL_isGlossary_129 : decode cL_isGlossary 129 = .ok (.iload 8, 2) := by decide +kernel
theorem dL_isGlossary_131 : decode cL_isGlossary 131 = .ok (.iload 9, 2) := by decide +kernel
theorem dL_isGlossary_133 : decode cL_isGlossary 133 = .ok (.if_icmp .ge 7, 3) := by decide +kernel
theorem dL_isGlossary_136 : decode cL_isGlossary 136 = .ok (.iconst 1, 1) := by decide +kernel
theorem dL_isGlossary_137 : decode cL_isGlossary 137 = .ok (.goto 4, 3) := by decide +kernel
theorem dL_isGlossary_140 : decode cL_isGlossary 140 = .ok (.iconst 0, 1) := by decide +kernel
theorem dL_isGlossary_141 : decode cL_isGlossary 141 = .ok (.istore 6, 2) := by decide +kernel
theorem dL_isGlossary_143 : decode cL_isGlossary 143 = .ok (.iinc 7 1, 3) := by decide +kernel
theorem dL_isGlossary_146 : decode cL_isGlossary 146 = .ok (.goto (-60), 3) := by decide +kernel
theorem dL_isGlossary_149 : decode cL_isGlossary 149 = .ok (.iload 6, 2) := by decide +kernel
theorem dL_isGlossary_151 : decode cL_isGlossary 151 = .ok (.ifCond .eq 51, 3) := by decide +kernel
theorem dL_isGlossary_154 : decode cL_isGlossary 154 = .ok (.iload 4, 2) := by decide +kernel
theorem dL_isGlossary_156 : decode cL_isGlossary 156 = .ok (.ifCond .le 16, 3) := by decide +kernel
theorem dL_isGlossary_159 : decode cL_isGlossary 159 = .ok (.aload_n 0, 1) := by decide +kernel
theorem dL_isGlossary_160 : decode cL_isGlossary 160 = .ok (.iload 4, 2) := by decide +kernel
theorem dL_isGlossary_162 : decode cL_isGlossary 162 = .ok (.iconst 1, 1) := by decide +kernel
theorem dL_isGlossary_163 : decode cL_isGlossary 163 = .ok (.isub, 1) := by decide +kernel
theorem dL_isGlossary_164 : decode cL_isGlossary 164 = .ok (.invokevirtual 135, 3) := by decide +kernel
theorem dL_isGlossary_167 : decode cL_isGlossary 167 = .ok (.iload 5, 2) := by decide +kernel
theorem dL_isGlossary_169 : decode cL_isGlossary 169 = .ok (.if_icmp .lt 33, 3) := by decide +kernel
theorem dL_isGlossary_172 : decode cL_isGlossary 172 = .ok (.iload 5, 2) := by decide +kernel
theorem dL_isGlossary_174 : decode cL_isGlossary 174 = .ok (.iconst 1, 1) := by decide +kernel
theorem dL_isGlossary_175 : decode cL_isGlossary 175 = .ok (.if_icmp .lt 27, 3) := by decide +kernel
theorem dL_isGlossary_178 : decode cL_isGlossary 178 = .ok (.aload_n 0, 1) := by decide +kernel
theorem dL_isGlossary_179 : decode cL_isGlossary 179 = .ok (.iload 4, 2) := by decide +kernel
theorem dL_isGlossary_181 : decode cL_isGlossary 181 = .ok (.iconst 0, 1) := by decide +kernel
theorem dL_isGlossary_182 : decode cL_isGlossary 182 = .ok (.invokevirtual 138, 3) := by decide +kernel
theorem dL_isGlossary_185 : decode cL_isGlossary 185 = .ok (.bipush 97, 2) := by decide +kernel
theorem dL_isGlossary_187 : decode cL_isGlossary 187 = .ok (.if_icmp .lt 15, 3) := by decide +kernel
theorem dL_isGlossary_190 : decode cL_isGlossary 190 = .ok (.aload_n 0, 1) := by decide +kernel
theorem dL_isGlossary_191 : decode cL_isGlossary 191 = .ok (.iload 4, 2) := by decide +kernel
theorem dL_isGlossary_193 : decode cL_isGlossary 193 = .ok (.bipush 7, 2) := by decide +kernel
theorem dL_isGlossary_195 : decode cL_isGlossary 195 = .ok (.invokevirtual 138, 3) := by decide +kernel
theorem dL_isGlossary_198 : decode cL_isGlossary 198 = .ok (.iconst (-1), 1) := by decide +kernel
theorem dL_isGlossary_199 : decode cL_isGlossary 199 = .ok (.if_icmp .eq 5, 3) := by decide +kernel
theorem dL_isGlossary_202 : decode cL_isGlossary 202 = .ok (.iconst 0, 1) := by decide +kernel
theorem dL_isGlossary_203 : decode cL_isGlossary 203 = .ok (.ireturn, 1) := by decide +kernel
theorem dL_isGlossary_204 : decode cL_isGlossary 204 = .ok (.iinc 4 1, 3) := by decide +kernel
theorem dL_isGlossary_207 : decode cL_isGlossary 207 = .ok (.goto (-168), 3) := by decide +kernel
theorem dL_isGlossary_210 : decode cL_isGlossary 210 = .ok (.iload_n 3, 1) := by decide +kernel
theorem dL_isGlossary_211 : decode cL_isGlossary 211 = .ok (.iload_n 2, 1) := by decide +kernel
theorem dL_isGlossary_212 : decode cL_isGlossary 212 = .ok (.if_icmp .ne 7, 3) := by decide +kernel
theorem dL_isGlossary_215 : decode cL_isGlossary 215 = .ok (.iconst 1, 1) := by decide +kernel
theorem dL_isGlossary_216 : decode cL_isGlossary 216 = .ok (.goto 4, 3) := by decide +kernel
theorem dL_isGlossary_219 : decode cL_isGlossary 219 = .ok (.iconst 0, 1) := by decide +kernel
theorem dL_isGlossary_220 : decode cL_isGlossary 220 = .ok (.ireturn, 1) := by decide +kernel
def ch_tale : List (List Cond) := [wsL_tale_r1, wsL_tale_r2, wsL_tale_r3, wsL_tale_r4, wsX100, wsX90, wsX40, wsX70]
theorem chm_tale_0 : ∀ w ∈ wsL_tale_r1, w ∈ wsL_tale := fun w h => List.mem_cons_of_mem _ (List.mem_append_left _ (List.mem_append_left _ (List.mem_append_left _ (List.mem_append_left _ (List.mem_append_left _ (List.mem_append_left _ h))))))
theorem chm_tale_1 : ∀ w ∈ wsL_tale_r2, w ∈ wsL_tale := fun w h => List.mem_cons_of_mem _ (List.mem_append_left _ (List.mem_append_left _ (List.mem_append_left _ (List.mem_append_left _ (List.mem_append_left _ (List.mem_append_right _ (List.mem_append_left _ h)))))))
theorem chm_tale_2 : ∀ w ∈ wsL_tale_r3, w ∈ wsL_tale := fun w h => List.mem_cons_of_mem _ (List.mem_append_left _ (List.mem_append_left _ (List.mem_append_left _ (List.mem_append_left _ (List.mem_append_left _ (List.mem_append_right _ (List.mem_append_right _ (List.mem_append_left _ h))))))))
theorem chm_tale_3 : ∀ w ∈ wsL_tale_r4, w ∈ wsL_tale := fun w h => List.mem_cons_of_mem _ (List.mem_append_left _ (List.mem_append_left _ (List.mem_append_left _ (List.mem_append_left _ (List.mem_append_left _ (List.mem_append_right _ (List.mem_append_right _ (List.mem_append_right _ h))))))))
theorem chm_tale_4 : ∀ w ∈ wsX100, w ∈ wsL_tale := fun w h => List.mem_cons_of_mem _ (List.mem_append_left _ (List.mem_append_left _ (List.mem_append_left _ (List.mem_append_left _ (List.mem_append_right _ h)))))
theorem chm_tale_5 : ∀ w ∈ wsX90, w ∈ wsL_tale := fun w h => List.mem_cons_of_mem _ (List.mem_append_left _ (List.mem_append_left _ (List.mem_append_left _ (List.mem_append_right _ h))))
theorem chm_tale_6 : ∀ w ∈ wsX40, w ∈ wsL_tale := fun w h => List.mem_cons_of_mem _ (List.mem_append_left _ (List.mem_append_left _ (List.mem_append_right _ h)))
theorem chm_tale_7 : ∀ w ∈ wsX70, w ∈ wsL_tale := fun w h => List.mem_cons_of_mem _ (List.mem_append_left _ (List.mem_append_right _ h))
theorem chi_tale : ∀ c ∈ ch_tale, ∀ w ∈ c, w ∈ wsL_tale := (List.forall_mem_cons.mpr ⟨chm_tale_0, (List.forall_mem_cons.mpr ⟨chm_tale_1, (List.forall_mem_cons.mpr ⟨chm_tale_2, (List.forall_mem_cons.mpr ⟨chm_tale_3, (List.forall_mem_cons.mpr ⟨chm_tale_4, (List.forall_mem_cons.mpr ⟨chm_tale_5, (List.forall_mem_cons.mpr ⟨chm_tale_6, (List.forall_mem_cons.mpr ⟨chm_tale_7, (fun _ h => absurd h List.not_mem_nil)⟩)⟩)⟩)⟩)⟩)⟩)⟩)⟩)
set_option maxRecDepth 100000 in
theorem chg_tale : wsL_tale.all goodWord = true := by decide +kernel
set_option maxRecDepth 100000 in
theorem ggL_tale_X10_day : GoodIn wsL_tale wsX10_day := goodIn_ch ch_tale chi_tale chg_tale [(0, 5), (0, 6), (4, 0), (4, 1), (4, 2), (4, 3), (4, 4), (4, 5), (4, 6), (5, 0), (5, 1), (5, 2), (5, 3)] rfl
set_option maxRecDepth 100000 in
theorem gL_tale_X10_day : GoodIn wsL_tale (wsV RL 104 RX10 yX10_day wsX10_day) := goodIn_app (goodIn_ch ch_tale chi_tale chg_tale [(0, 1), (0, 2), (0, 3), (0, 4)] rfl) ggL_tale_X10_day
set_option maxRecDepth 100000 in
theorem ggL_tale_X10_pamphlets : GoodIn wsL_tale wsX10_pamphlets := goodIn_ch ch_tale chi_tale chg_tale [(0, 10), (0, 6), (4, 0), (4, 1), (4, 2), (4, 3), (4, 4), (4, 5), (4, 6), (5, 0), (5, 1), (5, 2), (5, 3)] rfl
set_option maxRecDepth 100000 in
theorem gL_tale_X10_pamphlets : GoodIn wsL_tale (wsV RL 79 RX10 yX10_pamphlets wsX10_pamphlets) := goodIn_app (goodIn_ch ch_tale chi_tale chg_tale [(0, 7), (0, 8), (0, 9), (0, 4)] rfl) ggL_tale_X10_pamphlets
set_option maxRecDepth 100000 in
theorem ggL_tale_X10_authorOf : GoodIn wsL_tale wsX10_authorOf := goodIn_ca (goodIn_ch ch_tale chi_tale chg_tale [(0, 14), (0, 6), (0, 15), (0, 16), (0, 17), (0, 4), (0, 18), (0, 19), (0, 20), (0, 21), (0, 22), (0, 23), (1, 0), (1, 1), (1, 2), (1, 3), (1, 4), (1, 5), (1, 6), (1, 7), (1, 8), (4, 0), (4, 1), (4, 2), (4, 3), (4, 4), (4, 5), (4, 6), (6, 0), (6, 1), (6, 2), (6, 3), (6, 4), (6, 5), (6, 6), (6, 7), (5, 0), (5, 1), (5, 2), (5, 3)] rfl) (goodIn_sub (fun _ h => List.mem_cons_of_mem _ (List.mem_append_right _ h)) (by decide +kernel))
set_option maxRecDepth 100000 in
theorem gL_tale_X10_authorOf : GoodIn wsL_tale (wsV RL 159 RX10 yX10_authorOf wsX10_authorOf) := goodIn_app (goodIn_ch ch_tale chi_tale chg_tale [(0, 11), (0, 12), (0, 13), (0, 4)] rfl) ggL_tale_X10_authorOf
set_option maxRecDepth 100000 in
theorem ggL_tale_X10_dayOf : GoodIn wsL_tale wsX10_dayOf := goodIn_ca (goodIn_ch ch_tale chi_tale chg_tale [(1, 12), (0, 6), (0, 15), (0, 16), (0, 17), (0, 4), (0, 18), (0, 19), (0, 20), (0, 21), (0, 22), (0, 23), (1, 0), (1, 1), (1, 2), (1, 3), (1, 4), (1, 5), (1, 6), (1, 7), (1, 8), (4, 0), (4, 1), (4, 2), (4, 3), (4, 4), (4, 5), (4, 6), (6, 0), (6, 1), (6, 2), (6, 3), (6, 4), (6, 5), (6, 6), (6, 7), (5, 0), (5, 1), (5, 2), (5, 3)] rfl) (goodIn_sub (fun _ h => List.mem_cons_of_mem _ (List.mem_append_right _ h)) (by decide +kernel))
set_option maxRecDepth 100000 in
theorem gL_tale_X10_dayOf : GoodIn wsL_tale (wsV RL 57 RX10 yX10_dayOf wsX10_dayOf) := goodIn_app (goodIn_ch ch_tale chi_tale chg_tale [(1, 9), (1, 10), (1, 11), (0, 4)] rfl) ggL_tale_X10_dayOf
set_option maxRecDepth 100000 in
theorem ggL_tale_X10_wordsOf : GoodIn wsL_tale wsX10_wordsOf := goodIn_ca (goodIn_ch ch_tale chi_tale chg_tale [(1, 16), (0, 6), (0, 15), (0, 16), (0, 17), (0, 4), (0, 18), (0, 19), (0, 20), (0, 21), (0, 22), (0, 23), (1, 0), (1, 1), (1, 2), (1, 3), (1, 4), (1, 5), (1, 6), (1, 7), (1, 8), (4, 0), (4, 1), (4, 2), (4, 3), (4, 4), (4, 5), (4, 6), (6, 0), (6, 1), (6, 2), (6, 3), (6, 4), (6, 5), (6, 6), (6, 7), (5, 0), (5, 1), (5, 2), (5, 3)] rfl) (goodIn_sub (fun _ h => List.mem_cons_of_mem _ (List.mem_append_right _ h)) (by decide +kernel))
set_option maxRecDepth 100000 in
theorem gL_tale_X10_wordsOf : GoodIn wsL_tale (wsV RL 60 RX10 yX10_wordsOf wsX10_wordsOf) := goodIn_app (goodIn_ch ch_tale chi_tale chg_tale [(1, 13), (1, 14), (1, 15), (0, 4)] rfl) ggL_tale_X10_wordsOf
set_option maxRecDepth 100000 in
theorem ggL_tale_X10_letterOf : GoodIn wsL_tale wsX10_letterOf := goodIn_ca (goodIn_ch ch_tale chi_tale chg_tale [(1, 20), (0, 6), (1, 21), (1, 22), (1, 23), (0, 4), (2, 0), (0, 19), (0, 20), (0, 15), (0, 16), (0, 17), (0, 18), (0, 21), (0, 22), (0, 23), (1, 0), (1, 1), (1, 2), (1, 3), (1, 4), (1, 5), (1, 6), (1, 7), (1, 8), (2, 1), (2, 2), (2, 3), (2, 4), (2, 5), (2, 6), (2, 7), (2, 8), (2, 9), (2, 10), (2, 11), (2, 12), (4, 0), (4, 1), (4, 2), (4, 3), (4, 4), (4, 5), (4, 6), (6, 0), (6, 1), (6, 2), (6, 3), (6, 4), (6, 5), (6, 6), (6, 7), (5, 0), (5, 1), (5, 2), (5, 3), (7, 0)] rfl) (goodIn_sub (fun _ h => List.mem_cons_of_mem _ (List.mem_append_right _ h)) (by decide +kernel))
set_option maxRecDepth 100000 in
theorem gL_tale_X10_letterOf : GoodIn wsL_tale (wsV RL 162 RX10 yX10_letterOf wsX10_letterOf) := goodIn_app (goodIn_ch ch_tale chi_tale chg_tale [(1, 17), (1, 18), (1, 19), (0, 4)] rfl) ggL_tale_X10_letterOf
set_option maxRecDepth 100000 in
theorem ggL_tale_X10_quotationsOf : GoodIn wsL_tale wsX10_quotationsOf := goodIn_ca (goodIn_ch ch_tale chi_tale chg_tale [(2, 16), (0, 6), (0, 15), (0, 16), (0, 17), (0, 4), (0, 18), (0, 19), (0, 20), (0, 21), (0, 22), (0, 23), (1, 0), (1, 1), (1, 2), (1, 3), (1, 4), (1, 5), (1, 6), (1, 7), (1, 8), (4, 0), (4, 1), (4, 2), (4, 3), (4, 4), (4, 5), (4, 6), (6, 0), (6, 1), (6, 2), (6, 3), (6, 4), (6, 5), (6, 6), (6, 7), (5, 0), (5, 1), (5, 2), (5, 3)] rfl) (goodIn_sub (fun _ h => List.mem_cons_of_mem _ (List.mem_append_right _ h)) (by decide +kernel))
set_option maxRecDepth 100000 in
theorem gL_tale_X10_quotationsOf : GoodIn wsL_tale (wsV RL 82 RX10 yX10_quotationsOf wsX10_quotationsOf) := goodIn_app (goodIn_ch ch_tale chi_tale chg_tale [(2, 13), (2, 14), (2, 15), (0, 4)] rfl) ggL_tale_X10_quotationsOf
set_option maxRecDepth 100000 in
theorem ggL_tale_X10_sourceOf : GoodIn wsL_tale wsX10_sourceOf := goodIn_ca (goodIn_ch ch_tale chi_tale chg_tale [(2, 20), (0, 6), (2, 21), (2, 22), (2, 23), (0, 4), (3, 0), (0, 19), (0, 20), (0, 15), (0, 16), (0, 17), (0, 18), (0, 21), (0, 22), (0, 23), (1, 0), (1, 1), (1, 2), (1, 3), (1, 4), (1, 5), (1, 6), (1, 7), (1, 8), (3, 1), (3, 2), (3, 3), (2, 7), (3, 4), (2, 9), (4, 0), (4, 1), (4, 2), (4, 3), (4, 4), (4, 5), (4, 6), (6, 0), (6, 1), (6, 2), (6, 3), (6, 4), (6, 5), (6, 6), (6, 7), (5, 0), (5, 1), (5, 2), (5, 3), (7, 0)] rfl) (goodIn_sub (fun _ h => List.mem_cons_of_mem _ (List.mem_append_right _ h)) (by decide +kernel))
set_option maxRecDepth 100000 in
theorem gL_tale_X10_sourceOf : GoodIn wsL_tale (wsV RL 30 RX10 yX10_sourceOf wsX10_sourceOf) := goodIn_app (goodIn_ch ch_tale chi_tale chg_tale [(2, 17), (2, 18), (2, 19), (0, 4)] rfl) ggL_tale_X10_sourceOf
set_option maxRecDepth 100000 in
theorem ggL_tale_X10_beginOf : GoodIn wsL_tale wsX10_beginOf := goodIn_ca (goodIn_ch ch_tale chi_tale chg_tale [(3, 8), (0, 6), (2, 21), (2, 22), (2, 23), (0, 4), (3, 0), (0, 19), (0, 20), (0, 15), (0, 16), (0, 17), (0, 18), (0, 21), (0, 22), (0, 23), (1, 0), (1, 1), (1, 2), (1, 3), (1, 4), (1, 5), (1, 6), (1, 7), (1, 8), (3, 1), (3, 2), (3, 3), (2, 7), (3, 4), (2, 9), (4, 0), (4, 1), (4, 2), (4, 3), (4, 4), (4, 5), (4, 6), (6, 0), (6, 1), (6, 2), (6, 3), (6, 4), (6, 5), (6, 6), (6, 7), (5, 0), (5, 1), (5, 2), (5, 3), (7, 0)] rfl) (goodIn_sub (fun _ h => List.mem_cons_of_mem _ (List.mem_append_right _ h)) (by decide +kernel))
set_option maxRecDepth 100000 in
theorem gL_tale_X10_beginOf : GoodIn wsL_tale (wsV RL 33 RX10 yX10_beginOf wsX10_beginOf) := goodIn_app (goodIn_ch ch_tale chi_tale chg_tale [(3, 5), (3, 6), (3, 7), (0, 4)] rfl) ggL_tale_X10_beginOf
set_option maxRecDepth 100000 in
theorem ggL_tale_X10_lengthOf : GoodIn wsL_tale wsX10_lengthOf := goodIn_ca (goodIn_ch ch_tale chi_tale chg_tale [(3, 12), (0, 6), (2, 21), (2, 22), (2, 23), (0, 4), (3, 0), (0, 19), (0, 20), (0, 15), (0, 16), (0, 17), (0, 18), (0, 21), (0, 22), (0, 23), (1, 0), (1, 1), (1, 2), (1, 3), (1, 4), (1, 5), (1, 6), (1, 7), (1, 8), (3, 1), (3, 2), (3, 3), (2, 7), (3, 4), (2, 9), (4, 0), (4, 1), (4, 2), (4, 3), (4, 4), (4, 5), (4, 6), (6, 0), (6, 1), (6, 2), (6, 3), (6, 4), (6, 5), (6, 6), (6, 7), (5, 0), (5, 1), (5, 2), (5, 3), (7, 0)] rfl) (goodIn_sub (fun _ h => List.mem_cons_of_mem _ (List.mem_append_right _ h)) (by decide +kernel))
set_option maxRecDepth 100000 in
theorem gL_tale_X10_lengthOf : GoodIn wsL_tale (wsV RL 36 RX10 yX10_lengthOf wsX10_lengthOf) := goodIn_app (goodIn_ch ch_tale chi_tale chg_tale [(3, 9), (3, 10), (3, 11), (0, 4)] rfl) ggL_tale_X10_lengthOf
theorem dL_tale_0 : decode cL_tale 0 = .ok (.ldc2_w 157, 3) := by decide +kernel
theorem dL_tale_3 : decode cL_tale 3 = .ok (.aload_n 0, 1) := by decide +kernel
theorem dL_tale_4 : decode cL_tale 4 = .ok (.invokevirtual 104, 3) := by decide +kernel
theorem dL_tale_7 : decode cL_tale 7 = .ok (.i2l, 1) := by decide +kernel
theorem dL_tale_8 : decode cL_tale 8 = .ok (.lmul, 1) := by decide +kernel
theorem dL_tale_9 : decode cL_tale 9 = .ok (.aload_n 0, 1) := by decide +kernel
theorem dL_tale_10 : decode cL_tale 10 = .ok (.invokevirtual 79, 3) := by decide +kernel
theorem dL_tale_13 : decode cL_tale 13 = .ok (.i2l, 1) := by decide +kernel
theorem dL_tale_14 : decode cL_tale 14 = .ok (.ladd, 1) := by decide +kernel
theorem dL_tale_15 : decode cL_tale 15 = .ok (.lstore_n 1, 1) := by decide +kernel
theorem dL_tale_16 : decode cL_tale 16 = .ok (.iconst 0, 1) := by decide +kernel
theorem dL_tale_17 : decode cL_tale 17 = .ok (.istore_n 3, 1) := by decide +kernel
theorem dL_tale_18 : decode cL_tale 18 = .ok (.iload_n 3, 1) := by decide +kernel
theorem dL_tale_19 : decode cL_tale 19 = .ok (.aload_n 0, 1) := by decide +kernel
theorem dL_tale_20 : decode cL_tale 20 = .ok (.invokevirtual 79, 3) := by decide +kernel
theorem dL_tale_23 : decode cL_tale 23 = .ok (.if_icmp .ge 167, 3) := by decide +kernel
theorem dL_tale_26 : decode cL_tale 26 = .ok (.ldc2_w 157, 3) := by decide +kernel
theorem dL_tale_29 : decode cL_tale 29 = .ok (.ldc2_w 157, 3) := by decide +kernel
theorem dL_tale_32 : decode cL_tale 32 = .ok (.ldc2_w 157, 3) := by decide +kernel
theorem dL_tale_35 : decode cL_tale 35 = .ok (.lload_n 1, 1) := by decide +kernel
theorem dL_tale_36 : decode cL_tale 36 = .ok (.lmul, 1) := by decide +kernel
theorem dL_tale_37 : decode cL_tale 37 = .ok (.aload_n 0, 1) := by decide +kernel
theorem dL_tale_38 : decode cL_tale 38 = .ok (.iload_n 3, 1) := by decide +kernel
theorem dL_tale_39 : decode cL_tale 39 = .ok (.invokevirtual 159, 3) := by decide +kernel
theorem dL_tale_42 : decode cL_tale 42 = .ok (.i2l, 1) := by decide +kernel
theorem dL_tale_43 : decode cL_tale 43 = .ok (.ladd, 1) := by decide +kernel
theorem dL_tale_44 : decode cL_tale 44 = .ok (.lmul, 1) := by decide +kernel
theorem dL_tale_45 : decode cL_tale 45 = .ok (.aload_n 0, 1) := by decide +kernel
theorem dL_tale_46 : decode cL_tale 46 = .ok (.iload_n 3, 1) := by decide +kernel
theorem dL_tale_47 : decode cL_tale 47 = .ok (.invokevirtual 57, 3) := by decide +kernel
theorem dL_tale_50 : decode cL_tale 50 = .ok (.i2l, 1) := by decide +kernel
theorem dL_tale_51 : decode cL_tale 51 = .ok (.ladd, 1) := by decide +kernel
theorem dL_tale_52 : decode cL_tale 52 = .ok (.lmul, 1) := by decide +kernel
theorem dL_tale_53 : decode cL_tale 53 = .ok (.aload_n 0, 1) := by decide +kernel
theorem dL_tale_54 : decode cL_tale 54 = .ok (.iload_n 3, 1) := by decide +kernel
theorem dL_tale_55 : decode cL_tale 55 = .ok (.invokevirtual 60, 3) := by decide +kernel
theorem dL_tale_58 : decode cL_tale 58 = .ok (.i2l, 1) := by decide +kernel
theorem dL_tale_59 : decode cL_tale 59 = .ok (.ladd, 1) := by decide +kernel
theorem dL_tale_60 : decode cL_tale 60 = .ok (.lstore_n 1, 1) := by decide +kernel
theorem dL_tale_61 : decode cL_tale 61 = .ok (.iconst 0, 1) := by decide +kernel
theorem dL_tale_62 : decode cL_tale 62 = .ok (.istore 4, 2) := by decide +kernel
theorem dL_tale_64 : decode cL_tale 64 = .ok (.iload 4, 2) := by decide +kernel
theorem dL_tale_66 : decode cL_tale 66 = .ok (.aload_n 0, 1) := by decide +kernel
theorem dL_tale_67 : decode cL_tale 67 = .ok (.iload_n 3, 1) := by decide +kernel
theorem dL_tale_68 : decode cL_tale 68 = .ok (.invokevirtual 60, 3) := by decide +kernel
theorem dL_tale_71 : decode cL_tale 71 = .ok (.if_icmp .ge 53, 3) := by decide +kernel
theorem dL_tale_74 : decode cL_tale 74 = .ok (.ldc2_w 157, 3) := by decide +kernel
theorem dL_tale_77 : decode cL_tale 77 = .ok (.ldc2_w 157, 3) := by decide +kernel
theorem dL_tale_80 : decode cL_tale 80 = .ok (.ldc2_w 157, 3) := by decide +kernel
theorem dL_tale_83 : decode cL_tale 83 = .ok (.lload_n 1, 1) := by decide +kernel
theorem dL_tale_84 : decode cL_tale 84 = .ok (.lmul, 1) := by decide +kernel
theorem dL_tale_85 : decode cL_tale 85 = .ok (.aload_n 0, 1) := by decide +kernel
theorem dL_tale_86 : decode cL_tale 86 = .ok (.iload_n 3, 1) := by decide +kernel
theorem dL_tale_87 : decode cL_tale 87 = .ok (.iload 4, 2) := by decide +kernel
theorem dL_tale_89 : decode cL_tale 89 = .ok (.iconst 0, 1) := by decide +kernel
theorem dL_tale_90 : decode cL_tale 90 = .ok (.invokevirtual 162, 3) := by decide +kernel
theorem dL_tale_93 : decode cL_tale 93 = .ok (.i2l, 1) := by decide +kernel
theorem dL_tale_94 : decode cL_tale 94 = .ok (.ladd, 1) := by decide +kernel
theorem dL_tale_95 : decode cL_tale 95 = .ok (.lmul, 1) := by decide +kernel
theorem dL_tale_96 : decode cL_tale 96 = .ok (.aload_n 0, 1) := by decide +kernel
theorem dL_tale_97 : decode cL_tale 97 = .ok (.iload_n 3, 1) := by decide +kernel
theorem dL_tale_98 : decode cL_tale 98 = .ok (.iload 4, 2) := by decide +kernel
theorem dL_tale_100 : decode cL_tale 100 = .ok (.iconst 1, 1) := by decide +kernel
theorem dL_tale_101 : decode cL_tale 101 = .ok (.invokevirtual 162, 3) := by decide +kernel
theorem dL_tale_104 : decode cL_tale 104 = .ok (.i2l, 1) := by decide +kernel
theorem dL_tale_105 : decode cL_tale 105 = .ok (.ladd, 1) := by decide +kernel
theorem dL_tale_106 : decode cL_tale 106 = .ok (.lmul, 1) := by decide +kernel
theorem dL_tale_107 : decode cL_tale 107 = .ok (.aload_n 0, 1) := by decide +kernel
theorem dL_tale_108 : decode cL_tale 108 = .ok (.iload_n 3, 1) := by decide +kernel
theorem dL_tale_109 : decode cL_tale 109 = .ok (.iload 4, 2) := by decide +kernel
theorem dL_tale_111 : decode cL_tale 111 = .ok (.iconst 2, 1) := by decide +kernel
theorem dL_tale_112 : decode cL_tale 112 = .ok (.invokevirtual 162, 3) := by decide +kernel
theorem dL_tale_115 : decode cL_tale 115 = .ok (.i2l, 1) := by decide +kernel
theorem dL_tale_116 : decode cL_tale 116 = .ok (.ladd, 1) := by decide +kernel
theorem dL_tale_117 : decode cL_tale 117 = .ok (.lstore_n 1, 1) := by decide +kernel
theorem dL_tale_118 : decode cL_tale 118 = .ok (.iinc 4 1, 3) := by decide +kernel
theorem dL_tale_121 : decode cL_tale 121 = .ok (.goto (-57), 3) := by decide +kernel
theorem dL_tale_124 : decode cL_tale 124 = .ok (.iconst 0, 1) := by decide +kernel
theorem dL_tale_125 : decode cL_tale 125 = .ok (.istore 4, 2) := by decide +kernel
theorem dL_tale_127 : decode cL_tale 127 = .ok (.iload 4, 2) := by decide +kernel
theorem dL_tale_129 : decode cL_tale 129 = .ok (.aload_n 0, 1) := by decide +kernel
theorem dL_tale_130 : decode cL_tale 130 = .ok (.iload_n 3, 1) := by decide +kernel
theorem dL_tale_131 : decode cL_tale 131 = .ok (.invokevirtual 82, 3) := by decide +kernel
theorem dL_tale_134 : decode cL_tale 134 = .ok (.if_icmp .ge 50, 3) := by decide +kernel
theorem dL_tale_137 : decode cL_tale 137 = .ok (.ldc2_w 157, 3) := by decide +kernel
theorem dL_tale_140 : decode cL_tale 140 = .ok (.ldc2_w 157, 3) := by decide +kernel
theorem dL_tale_143 : decode cL_tale 143 = .ok (.ldc2_w 157, 3) := by decide +kernel
theorem dL_tale_146 : decode cL_tale 146 = .ok (.lload_n 1, 1) := by decide +kernel
theorem dL_tale_147 : decode cL_tale 147 = .ok (.lmul, 1) := by decide +kernel
theorem dL_tale_148 : decode cL_tale 148 = .ok (.aload_n 0, 1) := by decide +kernel
theorem dL_tale_149 : decode cL_tale 149 = .ok (.iload_n 3, 1) := by decide +kernel
theorem dL_tale_150 : decode cL_tale 150 = .ok (.iload 4, 2) := by decide +kernel
theorem dL_tale_152 : decode cL_tale 152 = .ok (.invokevirtual 30, 3) := by decide +kernel
theorem dL_tale_155 : decode cL_tale 155 = .ok (.i2l, 1) := by decide +kernel
theorem dL_tale_156 : decode cL_tale 156 = .ok (.ladd, 1) := by decide +kernel
theorem dL_tale_157 : decode cL_tale 157 = .ok (.lmul, 1) := by decide +kernel
theorem dL_tale_158 : decode cL_tale 158 = .ok (.aload_n 0, 1) := by decide +kernel
theorem dL_tale_159 : decode cL_tale 159 = .ok (.iload_n 3, 1) := by decide +kernel
theorem dL_tale_160 : decode cL_tale 160 = .ok (.iload 4, 2) := by decide +kernel
theorem dL_tale_162 : decode cL_tale 162 = .ok (.invokevirtual 33, 3) := by decide +kernel
theorem dL_tale_165 : decode cL_tale 165 = .ok (.i2l, 1) := by decide +kernel
theorem dL_tale_166 : decode cL_tale 166 = .ok (.ladd, 1) := by decide +kernel
theorem dL_tale_167 : decode cL_tale 167 = .ok (.lmul, 1) := by decide +kernel
theorem dL_tale_168 : decode cL_tale 168 = .ok (.aload_n 0, 1) := by decide +kernel
theorem dL_tale_169 : decode cL_tale 169 = .ok (.iload_n 3, 1) := by decide +kernel
theorem dL_tale_170 : decode cL_tale 170 = .ok (.iload 4, 2) := by decide +kernel
theorem dL_tale_172 : decode cL_tale 172 = .ok (.invokevirtual 36, 3) := by decide +kernel
theorem dL_tale_175 : decode cL_tale 175 = .ok (.i2l, 1) := by decide +kernel
theorem dL_tale_176 : decode cL_tale 176 = .ok (.ladd, 1) := by decide +kernel
theorem dL_tale_177 : decode cL_tale 177 = .ok (.lstore_n 1, 1) := by decide +kernel
theorem dL_tale_178 : decode cL_tale 178 = .ok (.iinc 4 1, 3) := by decide +kernel
theorem dL_tale_181 : decode cL_tale 181 = .ok (.goto (-54), 3) := by decide +kernel
theorem dL_tale_184 : decode cL_tale 184 = .ok (.iinc 3 1, 3) := by decide +kernel
theorem dL_tale_187 : decode cL_tale 187 = .ok (.goto (-169), 3) := by decide +kernel
theorem dL_tale_190 : decode cL_tale 190 = .ok (.lload_n 1, 1) := by decide +kernel
theorem dL_tale_191 : decode cL_tale 191 = .ok (.lreturn, 1) := by decide +kernel
def ch_typeWord : List (List Cond) := [wsL_typeWord_r1, wsL_typeWord_r2, wsX100, wsX00, wsX70]
theorem chm_typeWord_0 : ∀ w ∈ wsL_typeWord_r1, w ∈ wsL_typeWord := fun w h => List.mem_cons_of_mem _ (List.mem_append_left _ (List.mem_append_left _ (List.mem_append_left _ (List.mem_append_left _ (List.mem_append_left _ (List.mem_append_left _ h))))))
theorem chm_typeWord_1 : ∀ w ∈ wsL_typeWord_r2, w ∈ wsL_typeWord := fun w h => List.mem_cons_of_mem _ (List.mem_append_left _ (List.mem_append_left _ (List.mem_append_left _ (List.mem_append_left _ (List.mem_append_left _ (List.mem_append_right _ h))))))
theorem chm_typeWord_2 : ∀ w ∈ wsX100, w ∈ wsL_typeWord := fun w h => List.mem_cons_of_mem _ (List.mem_append_left _ (List.mem_append_left _ (List.mem_append_left _ (List.mem_append_left _ (List.mem_append_right _ h)))))
theorem chm_typeWord_3 : ∀ w ∈ wsX00, w ∈ wsL_typeWord := fun w h => List.mem_cons_of_mem _ (List.mem_append_left _ (List.mem_append_left _ (List.mem_append_left _ (List.mem_append_right _ h))))
theorem chm_typeWord_4 : ∀ w ∈ wsX70, w ∈ wsL_typeWord := fun w h => List.mem_cons_of_mem _ (List.mem_append_left _ (List.mem_append_left _ (List.mem_append_right _ h)))
theorem chi_typeWord : ∀ c ∈ ch_typeWord, ∀ w ∈ c, w ∈ wsL_typeWord := (List.forall_mem_cons.mpr ⟨chm_typeWord_0, (List.forall_mem_cons.mpr ⟨chm_typeWord_1, (List.forall_mem_cons.mpr ⟨chm_typeWord_2, (List.forall_mem_cons.mpr ⟨chm_typeWord_3, (List.forall_mem_cons.mpr ⟨chm_typeWord_4, (fun _ h => absurd h List.not_mem_nil)⟩)⟩)⟩)⟩)⟩)
set_option maxRecDepth 100000 in
theorem chg_typeWord : wsL_typeWord.all goodWord = true := by decide +kernel
set_option maxRecDepth 100000 in
theorem ggL_typeWord_L_low : GoodIn wsL_typeWord wsL_low := goodIn_ch ch_typeWord chi_typeWord chg_typeWord [(0, 3), (0, 4)] rfl
set_option maxRecDepth 100000 in
theorem gL_typeWord_L_low : GoodIn wsL_typeWord (va_wsS RL 166 yL_low wsL_low) := goodIn_app (goodIn_ch ch_typeWord chi_typeWord chg_typeWord [(0, 0), (0, 1), (0, 2)] rfl) ggL_typeWord_L_low
set_option maxRecDepth 100000 in
theorem ggL_typeWord_X10_append : GoodIn wsL_typeWord wsX10_append := goodIn_ca (goodIn_ca (goodIn_ch ch_typeWord chi_typeWord chg_typeWord [(0, 9), (0, 10), (0, 11), (0, 12), (0, 13), (0, 14), (0, 15), (0, 16), (0, 17), (0, 18), (0, 19), (0, 20), (0, 21), (0, 22), (0, 23), (1, 0), (1, 1), (1, 2), (1, 3), (2, 0), (2, 1), (2, 2), (2, 3), (2, 4), (2, 5), (2, 6), (3, 0), (3, 1), (4, 0)] rfl) (goodIn_sub (fun _ h => List.mem_cons_of_mem _ (List.mem_append_left _ (List.mem_append_right _ h))) (by decide +kernel))) (goodIn_sub (fun _ h => List.mem_cons_of_mem _ (List.mem_append_right _ h)) (by decide +kernel))
set_option maxRecDepth 100000 in
theorem gL_typeWord_X10_append : GoodIn wsL_typeWord (wsV RL 169 RX10 yX10_append wsX10_append) := goodIn_app (goodIn_ch ch_typeWord chi_typeWord chg_typeWord [(0, 5), (0, 6), (0, 7), (0, 8)] rfl) ggL_typeWord_X10_append
theorem dL_typeWord_0 : decode cL_typeWord 0 = .ok (.aload_n 0, 1) := by decide +kernel
theorem dL_typeWord_1 : decode cL_typeWord 1 = .ok (.bipush 97, 2) := by decide +kernel
theorem dL_typeWord_3 : decode cL_typeWord 3 = .ok (.iload_n 1, 1) := by decide +kernel
theorem dL_typeWord_4 : decode cL_typeWord 4 = .ok (.iconst 3, 1) := by decide +kernel
theorem dL_typeWord_5 : decode cL_typeWord 5 = .ok (.invokestatic 166, 3) := by decide +kernel
theorem dL_typeWord_8 : decode cL_typeWord 8 = .ok (.iadd, 1) := by decide +kernel
theorem dL_typeWord_9 : decode cL_typeWord 9 = .ok (.invokevirtual 169, 3) := by decide +kernel
theorem dL_typeWord_12 : decode cL_typeWord 12 = .ok (.istore_n 2, 1) := by decide +kernel
theorem dL_typeWord_13 : decode cL_typeWord 13 = .ok (.iload_n 1, 1) := by decide +kernel
theorem dL_typeWord_14 : decode cL_typeWord 14 = .ok (.iconst 3, 1) := by decide +kernel
theorem dL_typeWord_15 : decode cL_typeWord 15 = .ok (.ishr, 1) := by decide +kernel
theorem dL_typeWord_16 : decode cL_typeWord 16 = .ok (.iconst 3, 1) := by decide +kernel
theorem dL_typeWord_17 : decode cL_typeWord 17 = .ok (.invokestatic 166, 3) := by decide +kernel
theorem dL_typeWord_20 : decode cL_typeWord 20 = .ok (.ifCond .le 20, 3) := by decide +kernel
theorem dL_typeWord_23 : decode cL_typeWord 23 = .ok (.aload_n 0, 1) := by decide +kernel
theorem dL_typeWord_24 : decode cL_typeWord 24 = .ok (.bipush 97, 2) := by decide +kernel
theorem dL_typeWord_26 : decode cL_typeWord 26 = .ok (.iload_n 1, 1) := by decide +kernel
theorem dL_typeWord_27 : decode cL_typeWord 27 = .ok (.iconst 5, 1) := by decide +kernel
theorem dL_typeWord_28 : decode cL_typeWord 28 = .ok (.ishr, 1) := by decide +kernel
theorem dL_typeWord_29 : decode cL_typeWord 29 = .ok (.iconst 2, 1) := by decide +kernel
theorem dL_typeWord_30 : decode cL_typeWord 30 = .ok (.invokestatic 166, 3) := by decide +kernel
theorem dL_typeWord_33 : decode cL_typeWord 33 = .ok (.iadd, 1) := by decide +kernel
theorem dL_typeWord_34 : decode cL_typeWord 34 = .ok (.invokevirtual 169, 3) := by decide +kernel
theorem dL_typeWord_37 : decode cL_typeWord 37 = .ok (.goto 4, 3) := by decide +kernel
theorem dL_typeWord_40 : decode cL_typeWord 40 = .ok (.iload_n 2, 1) := by decide +kernel
theorem dL_typeWord_41 : decode cL_typeWord 41 = .ok (.istore_n 2, 1) := by decide +kernel
theorem dL_typeWord_42 : decode cL_typeWord 42 = .ok (.iload_n 1, 1) := by decide +kernel
theorem dL_typeWord_43 : decode cL_typeWord 43 = .ok (.iconst 3, 1) := by decide +kernel
theorem dL_typeWord_44 : decode cL_typeWord 44 = .ok (.ishr, 1) := by decide +kernel
theorem dL_typeWord_45 : decode cL_typeWord 45 = .ok (.bipush 9, 2) := by decide +kernel
theorem dL_typeWord_47 : decode cL_typeWord 47 = .ok (.invokestatic 166, 3) := by decide +kernel
theorem dL_typeWord_50 : decode cL_typeWord 50 = .ok (.bipush 8, 2) := by decide +kernel
theorem dL_typeWord_52 : decode cL_typeWord 52 = .ok (.if_icmp .ne 12, 3) := by decide +kernel
theorem dL_typeWord_55 : decode cL_typeWord 55 = .ok (.aload_n 0, 1) := by decide +kernel
theorem dL_typeWord_56 : decode cL_typeWord 56 = .ok (.bipush 122, 2) := by decide +kernel
theorem dL_typeWord_58 : decode cL_typeWord 58 = .ok (.invokevirtual 169, 3) := by decide +kernel
theorem dL_typeWord_61 : decode cL_typeWord 61 = .ok (.goto 4, 3) := by decide +kernel
theorem dL_typeWord_64 : decode cL_typeWord 64 = .ok (.iload_n 2, 1) := by decide +kernel
theorem dL_typeWord_65 : decode cL_typeWord 65 = .ok (.ireturn, 1) := by decide +kernel
def ch_typeSame : List (List Cond) := [wsL_typeSame_r1, wsL_typeSame_r2, wsL_typeSame_r3, wsL_typeSame_r4, wsX100, wsX90, wsX00, wsX70, wsX40]
theorem chm_typeSame_0 : ∀ w ∈ wsL_typeSame_r1, w ∈ wsL_typeSame := fun w h => List.mem_cons_of_mem _ (List.mem_append_left _ (List.mem_append_left _ (List.mem_append_left _ (List.mem_append_left _ (List.mem_append_left _ (List.mem_append_left _ (List.mem_append_left _ (List.mem_append_left _ (List.mem_append_left _ h)))))))))
theorem chm_typeSame_1 : ∀ w ∈ wsL_typeSame_r2, w ∈ wsL_typeSame := fun w h => List.mem_cons_of_mem _ (List.mem_append_left _ (List.mem_append_left _ (List.mem_append_left _ (List.mem_append_left _ (List.mem_append_left _ (List.mem_append_left _ (List.mem_append_left _ (List.mem_append_left _ (List.mem_append_right _ (List.mem_append_left _ h))))))))))
theorem chm_typeSame_2 : ∀ w ∈ wsL_typeSame_r3, w ∈ wsL_typeSame := fun w h => List.mem_cons_of_mem _ (List.mem_append_left _ (List.mem_append_left _ (List.mem_append_left _ (List.mem_append_left _ (List.mem_append_left _ (List.mem_append_left _ (List.mem_append_left _ (List.mem_append_left _ (List.mem_append_right _ (List.mem_append_right _ (List.mem_append_left _ h)))))))))))
theorem chm_typeSame_3 : ∀ w ∈ wsL_typeSame_r4, w ∈ wsL_typeSame := fun w h => List.mem_cons_of_mem _ (List.mem_append_left _ (List.mem_append_left _ (List.mem_append_left _ (List.mem_append_left _ (List.mem_append_left _ (List.mem_append_left _ (List.mem_append_left _ (List.mem_append_left _ (List.mem_append_right _ (List.mem_append_right _ (List.mem_append_right _ h)))))))))))
theorem chm_typeSame_4 : ∀ w ∈ wsX100, w ∈ wsL_typeSame := fun w h => List.mem_cons_of_mem _ (List.mem_append_left _ (List.mem_append_left _ (List.mem_append_left _ (List.mem_append_left _ (List.mem_append_left _ (List.mem_append_left _ (List.mem_append_left _ (List.mem_append_right _ h))))))))
theorem chm_typeSame_5 : ∀ w ∈ wsX90, w ∈ wsL_typeSame := fun w h => List.mem_cons_of_mem _ (List.mem_append_left _ (List.mem_append_left _ (List.mem_append_left _ (List.mem_append_left _ (List.mem_append_left _ (List.mem_append_left _ (List.mem_append_right _ h)))))))
theorem chm_typeSame_6 : ∀ w ∈ wsX00, w ∈ wsL_typeSame := fun w h => List.mem_cons_of_mem _ (List.mem_append_left _ (List.mem_append_left _ (List.mem_append_left _ (List.mem_append_left _ (List.mem_append_left _ (List.mem_append_right _ h))))))
theorem chm_typeSame_7 : ∀ w ∈ wsX70, w ∈ wsL_typeSame := fun w h => List.mem_cons_of_mem _ (List.mem_append_left _ (List.mem_append_left _ (List.mem_append_left _ (List.mem_append_left _ (List.mem_append_right _ h)))))
theorem chm_typeSame_8 : ∀ w ∈ wsX40, w ∈ wsL_typeSame := fun w h => List.mem_cons_of_mem _ (List.mem_append_left _ (List.mem_append_left _ (List.mem_append_left _ (List.mem_append_right _ h))))
theorem chi_typeSame : ∀ c ∈ ch_typeSame, ∀ w ∈ c, w ∈ wsL_typeSame := (List.forall_mem_cons.mpr ⟨chm_typeSame_0, (List.forall_mem_cons.mpr ⟨chm_typeSame_1, (List.forall_mem_cons.mpr ⟨chm_typeSame_2, (List.forall_mem_cons.mpr ⟨chm_typeSame_3, (List.forall_mem_cons.mpr ⟨chm_typeSame_4, (List.forall_mem_cons.mpr ⟨chm_typeSame_5, (List.forall_mem_cons.mpr ⟨chm_typeSame_6, (List.forall_mem_cons.mpr ⟨chm_typeSame_7, (List.forall_mem_cons.mpr ⟨chm_typeSame_8, (fun _ h => absurd h List.not_mem_nil)⟩)⟩)⟩)⟩)⟩)⟩)⟩)⟩)⟩)
set_option maxRecDepth 100000 in
theorem chg_typeSame : wsL_typeSame.all goodWord = true := by decide +kernel
set_option maxRecDepth 100000 in
theorem ggL_typeSame_X10_pamphlets : GoodIn wsL_typeSame wsX10_pamphlets := goodIn_ch ch_typeSame chi_typeSame chg_typeSame [(0, 4), (0, 5), (4, 0), (4, 1), (4, 2), (4, 3), (4, 4), (4, 5), (4, 6), (5, 0), (5, 1), (5, 2), (5, 3)] rfl
set_option maxRecDepth 100000 in
theorem gL_typeSame_X10_pamphlets : GoodIn wsL_typeSame (wsV RL 79 RX10 yX10_pamphlets wsX10_pamphlets) := goodIn_app (goodIn_ch ch_typeSame chi_typeSame chg_typeSame [(0, 0), (0, 1), (0, 2), (0, 3)] rfl) ggL_typeSame_X10_pamphlets
set_option maxRecDepth 100000 in
theorem ggL_typeSame_L_low : GoodIn wsL_typeSame wsL_low := goodIn_ch ch_typeSame chi_typeSame chg_typeSame [(0, 9), (0, 10)] rfl
set_option maxRecDepth 100000 in
theorem gL_typeSame_L_low : GoodIn wsL_typeSame (va_wsS RL 166 yL_low wsL_low) := goodIn_app (goodIn_ch ch_typeSame chi_typeSame chg_typeSame [(0, 6), (0, 7), (0, 8)] rfl) ggL_typeSame_L_low
set_option maxRecDepth 100000 in
theorem ggL_typeSame_L_typeWord : GoodIn wsL_typeSame wsL_typeWord := goodIn_ca (goodIn_ca (goodIn_ch ch_typeSame chi_typeSame chg_typeSame [(0, 13), (0, 6), (0, 7), (0, 8), (0, 9), (0, 10), (0, 14), (0, 15), (0, 16), (0, 3), (0, 17), (0, 18), (0, 19), (0, 20), (0, 21), (0, 22), (0, 23), (1, 0), (1, 1), (1, 2), (1, 3), (1, 4), (1, 5), (1, 6), (1, 7), (1, 8), (1, 9), (1, 10), (1, 11), (4, 0), (4, 1), (4, 2), (4, 3), (4, 4), (4, 5), (4, 6), (6, 0), (6, 1), (7, 0)] rfl) (goodIn_sub (fun _ h => List.mem_cons_of_mem _ (List.mem_append_left _ (List.mem_append_left _ (List.mem_append_right _ h)))) (by decide +kernel))) (goodIn_sub (fun _ h => List.mem_cons_of_mem _ (List.mem_append_left _ (List.mem_append_right _ h))) (by decide +kernel))
set_option maxRecDepth 100000 in
theorem gL_typeSame_L_typeWord : GoodIn wsL_typeSame (va_wsS RL 172 yL_typeWord wsL_typeWord) := goodIn_app (goodIn_ch ch_typeSame chi_typeSame chg_typeSame [(0, 11), (0, 12), (0, 8)] rfl) ggL_typeSame_L_typeWord
set_option maxRecDepth 100000 in
theorem ggL_typeSame_X10_wordsOf : GoodIn wsL_typeSame wsX10_wordsOf := goodIn_ca (goodIn_ch ch_typeSame chi_typeSame chg_typeSame [(1, 15), (0, 5), (1, 16), (1, 17), (1, 18), (0, 3), (1, 19), (1, 20), (1, 21), (1, 22), (1, 23), (2, 0), (2, 1), (2, 2), (2, 3), (2, 4), (2, 5), (2, 6), (2, 7), (2, 8), (2, 9), (4, 0), (4, 1), (4, 2), (4, 3), (4, 4), (4, 5), (4, 6), (8, 0), (8, 1), (8, 2), (8, 3), (8, 4), (8, 5), (8, 6), (8, 7), (5, 0), (5, 1), (5, 2), (5, 3)] rfl) (goodIn_sub (fun _ h => List.mem_cons_of_mem _ (List.mem_append_right _ h)) (by decide +kernel))
set_option maxRecDepth 100000 in
theorem gL_typeSame_X10_wordsOf : GoodIn wsL_typeSame (wsV RL 60 RX10 yX10_wordsOf wsX10_wordsOf) := goodIn_app (goodIn_ch ch_typeSame chi_typeSame chg_typeSame [(1, 12), (1, 13), (1, 14), (0, 3)] rfl) ggL_typeSame_X10_wordsOf
set_option maxRecDepth 100000 in
theorem ggL_typeSame_X10_letterOf : GoodIn wsL_typeSame wsX10_letterOf := goodIn_ca (goodIn_ch ch_typeSame chi_typeSame chg_typeSame [(2, 13), (0, 5), (2, 14), (2, 15), (2, 16), (0, 3), (2, 17), (1, 20), (1, 21), (1, 16), (1, 17), (1, 18), (1, 19), (1, 22), (1, 23), (2, 0), (2, 1), (2, 2), (2, 3), (2, 4), (2, 5), (2, 6), (2, 7), (2, 8), (2, 9), (2, 18), (2, 19), (2, 20), (2, 21), (2, 22), (2, 23), (1, 9), (3, 0), (1, 11), (3, 1), (3, 2), (3, 3), (4, 0), (4, 1), (4, 2), (4, 3), (4, 4), (4, 5), (4, 6), (8, 0), (8, 1), (8, 2), (8, 3), (8, 4), (8, 5), (8, 6), (8, 7), (5, 0), (5, 1), (5, 2), (5, 3), (7, 0)] rfl) (goodIn_sub (fun _ h => List.mem_cons_of_mem _ (List.mem_append_right _ h)) (by decide +kernel))
set_option maxRecDepth 100000 in
theorem gL_typeSame_X10_letterOf : GoodIn wsL_typeSame (wsV RL 162 RX10 yX10_letterOf wsX10_letterOf) := goodIn_app (goodIn_ch ch_typeSame chi_typeSame chg_typeSame [(2, 10), (2, 11), (2, 12), (0, 3)] rfl) ggL_typeSame_X10_letterOf
set_option maxRecDepth 100000 in
theorem ggL_typeSame_X10_append : GoodIn wsL_typeSame wsX10_append := goodIn_ca (goodIn_ca (goodIn_ch ch_typeSame chi_typeSame chg_typeSame [(0, 17), (0, 18), (0, 19), (0, 20), (0, 21), (0, 22), (0, 23), (1, 0), (1, 1), (1, 2), (1, 3), (1, 4), (1, 5), (1, 6), (1, 7), (1, 8), (1, 9), (1, 10), (1, 11), (4, 0), (4, 1), (4, 2), (4, 3), (4, 4), (4, 5), (4, 6), (6, 0), (6, 1), (7, 0)] rfl) (goodIn_sub (fun _ h => List.mem_cons_of_mem _ (List.mem_append_left _ (List.mem_append_left _ (List.mem_append_right _ h)))) (by decide +kernel))) (goodIn_sub (fun _ h => List.mem_cons_of_mem _ (List.mem_append_left _ (List.mem_append_right _ h))) (by decide +kernel))
set_option maxRecDepth 100000 in
theorem gL_typeSame_X10_append : GoodIn wsL_typeSame (wsV RL 169 RX10 yX10_append wsX10_append) := goodIn_app (goodIn_ch ch_typeSame chi_typeSame chg_typeSame [(0, 14), (0, 15), (0, 16), (0, 3)] rfl) ggL_typeSame_X10_append
theorem dL_typeSame_0 : decode cL_typeSame 0 = .ok (.iload_n 1, 1) := by decide +kernel
theorem dL_typeSame_1 : decode cL_typeSame 1 = .ok (.aload_n 0, 1) := by decide +kernel
theorem dL_typeSame_2 : decode cL_typeSame 2 = .ok (.invokevirtual 79, 3) := by decide +kernel
theorem dL_typeSame_5 : decode cL_typeSame 5 = .ok (.if_icmp .ge 12, 3) := by decide +kernel
theorem dL_typeSame_8 : decode cL_typeSame 8 = .ok (.iload_n 3, 1) := by decide +kernel
theorem dL_typeSame_9 : decode cL_typeSame 9 = .ok (.bipush 6, 2) := by decide +kernel
theorem dL_typeSame_11 : decode cL_typeSame 11 = .ok (.invokestatic 166, 3) := by decide +kernel
theorem dL_typeSame_14 : decode cL_typeSame 14 = .ok (.ifCond .ne 9, 3) := by decide +kernel
theorem dL_typeSame_17 : decode cL_typeSame 17 = .ok (.aload_n 0, 1) := by decide +kernel
theorem dL_typeSame_18 : decode cL_typeSame 18 = .ok (.iload_n 3, 1) := by decide +kernel
theorem dL_typeSame_19 : decode cL_typeSame 19 = .ok (.invokestatic 172, 3) := by decide +kernel
theorem dL_typeSame_22 : decode cL_typeSame 22 = .ok (.ireturn, 1) := by decide +kernel
theorem dL_typeSame_23 : decode cL_typeSame 23 = .ok (.iconst 0, 1) := by decide +kernel
theorem dL_typeSame_24 : decode cL_typeSame 24 = .ok (.istore 4, 2) := by decide +kernel
theorem dL_typeSame_26 : decode cL_typeSame 26 = .ok (.iconst 0, 1) := by decide +kernel
theorem dL_typeSame_27 : decode cL_typeSame 27 = .ok (.istore 5, 2) := by decide +kernel
theorem dL_typeSame_29 : decode cL_typeSame 29 = .ok (.iload 5, 2) := by decide +kernel
theorem dL_typeSame_31 : decode cL_typeSame 31 = .ok (.iconst 3, 1) := by decide +kernel
theorem dL_typeSame_32 : decode cL_typeSame 32 = .ok (.if_icmp .ge 47, 3) := by decide +kernel
theorem dL_typeSame_35 : decode cL_typeSame 35 = .ok (.aload_n 0, 1) := by decide +kernel
theorem dL_typeSame_36 : decode cL_typeSame 36 = .ok (.iload_n 1, 1) := by decide +kernel
theorem dL_typeSame_37 : decode cL_typeSame 37 = .ok (.iload_n 2, 1) := by decide +kernel
theorem dL_typeSame_38 : decode cL_typeSame 38 = .ok (.aload_n 0, 1) := by decide +kernel
theorem dL_typeSame_39 : decode cL_typeSame 39 = .ok (.iload_n 1, 1) := by decide +kernel
theorem dL_typeSame_40 : decode cL_typeSame 40 = .ok (.invokevirtual 60, 3) := by decide +kernel
theorem dL_typeSame_43 : decode cL_typeSame 43 = .ok (.irem, 1) := by decide +kernel
theorem dL_typeSame_44 : decode cL_typeSame 44 = .ok (.iload 5, 2) := by decide +kernel
theorem dL_typeSame_46 : decode cL_typeSame 46 = .ok (.invokevirtual 162, 3) := by decide +kernel
theorem dL_typeSame_49 : decode cL_typeSame 49 = .ok (.iconst (-1), 1) := by decide +kernel
theorem dL_typeSame_50 : decode cL_typeSame 50 = .ok (.if_icmp .eq 29, 3) := by decide +kernel
theorem dL_typeSame_53 : decode cL_typeSame 53 = .ok (.aload_n 0, 1) := by decide +kernel
theorem dL_typeSame_54 : decode cL_typeSame 54 = .ok (.aload_n 0, 1) := by decide +kernel
theorem dL_typeSame_55 : decode cL_typeSame 55 = .ok (.iload_n 1, 1) := by decide +kernel
theorem dL_typeSame_56 : decode cL_typeSame 56 = .ok (.iload_n 2, 1) := by decide +kernel
theorem dL_typeSame_57 : decode cL_typeSame 57 = .ok (.aload_n 0, 1) := by decide +kernel
theorem dL_typeSame_58 : decode cL_typeSame 58 = .ok (.iload_n 1, 1) := by decide +kernel
theorem dL_typeSame_59 : decode cL_typeSame 59 = .ok (.invokevirtual 60, 3) := by decide +kernel
theorem dL_typeSame_62 : decode cL_typeSame 62 = .ok (.irem, 1) := by decide +kernel
theorem dL_typeSame_63 : decode cL_typeSame 63 = .ok (.iload 5, 2) := by decide +kernel
theorem dL_typeSame_65 : decode cL_typeSame 65 = .ok (.invokevirtual 162, 3) := by decide +kernel
theorem dL_typeSame_68 : decode cL_typeSame 68 = .ok (.invokevirtual 169, 3) := by decide +kernel
theorem dL_typeSame_71 : decode cL_typeSame 71 = .ok (.istore 4, 2) := by decide +kernel
theorem dL_typeSame_73 : decode cL_typeSame 73 = .ok (.iinc 5 1, 3) := by decide +kernel
theorem dL_typeSame_76 : decode cL_typeSame 76 = .ok (.goto (-47), 3) := by decide +kernel
theorem dL_typeSame_79 : decode cL_typeSame 79 = .ok (.iload 4, 2) := by decide +kernel
theorem dL_typeSame_81 : decode cL_typeSame 81 = .ok (.ireturn, 1) := by decide +kernel
def ch_typeQuotation : List (List Cond) := [wsL_typeQuotation_r1, wsL_typeQuotation_r2, wsL_typeQuotation_r3, wsL_typeQuotation_r4, wsX100, wsX00, wsX70, wsX90, wsX40]
theorem chm_typeQuotation_0 : ∀ w ∈ wsL_typeQuotation_r1, w ∈ wsL_typeQuotation := fun w h => List.mem_cons_of_mem _ (List.mem_append_left _ (List.mem_append_left _ (List.mem_append_left _ (List.mem_append_left _ (List.mem_append_left _ (List.mem_append_left _ (List.mem_append_left _ (List.mem_append_left _ (List.mem_append_left _ h)))))))))
theorem chm_typeQuotation_1 : ∀ w ∈ wsL_typeQuotation_r2, w ∈ wsL_typeQuotation := fun w h => List.mem_cons_of_mem _ (List.mem_append_left _ (List.mem_append_left _ (List.mem_append_left _ (List.mem_append_left _ (List.mem_append_left _ (List.mem_append_left _ (List.mem_append_left _ (List.mem_append_left _ (List.mem_append_right _ (List.mem_append_left _ h))))))))))
theorem chm_typeQuotation_2 : ∀ w ∈ wsL_typeQuotation_r3, w ∈ wsL_typeQuotation := fun w h => List.mem_cons_of_mem _ (List.mem_append_left _ (List.mem_append_left _ (List.mem_append_left _ (List.mem_append_left _ (List.mem_append_left _ (List.mem_append_left _ (List.mem_append_left _ (List.mem_append_left _ (List.mem_append_right _ (List.mem_append_right _ (List.mem_append_left _ h)))))))))))
theorem chm_typeQuotation_3 : ∀ w ∈ wsL_typeQuotation_r4, w ∈ wsL_typeQuotation := fun w h => List.mem_cons_of_mem _ (List.mem_append_left _ (List.mem_append_left _ (List.mem_append_left _ (List.mem_append_left _ (List.mem_append_left _ (List.mem_append_left _ (List.mem_append_left _ (List.mem_append_left _ (List.mem_append_right _ (List.mem_append_right _ (List.mem_append_right _ h)))))))))))
theorem chm_typeQuotation_4 : ∀ w ∈ wsX100, w ∈ wsL_typeQuotation := fun w h => List.mem_cons_of_mem _ (List.mem_append_left _ (List.mem_append_left _ (List.mem_append_left _ (List.mem_append_left _ (List.mem_append_left _ (List.mem_append_left _ (List.mem_append_left _ (List.mem_append_right _ h))))))))
theorem chm_typeQuotation_5 : ∀ w ∈ wsX00, w ∈ wsL_typeQuotation := fun w h => List.mem_cons_of_mem _ (List.mem_append_left _ (List.mem_append_left _ (List.mem_append_left _ (List.mem_append_left _ (List.mem_append_left _ (List.mem_append_left _ (List.mem_append_right _ h)))))))
theorem chm_typeQuotation_6 : ∀ w ∈ wsX70, w ∈ wsL_typeQuotation := fun w h => List.mem_cons_of_mem _ (List.mem_append_left _ (List.mem_append_left _ (List.mem_append_left _ (List.mem_append_left _ (List.mem_append_left _ (List.mem_append_right _ h))))))
theorem chm_typeQuotation_7 : ∀ w ∈ wsX90, w ∈ wsL_typeQuotation := fun w h => List.mem_cons_of_mem _ (List.mem_append_left _ (List.mem_append_left _ (List.mem_append_left _ (List.mem_append_left _ (List.mem_append_right _ h)))))
theorem chm_typeQuotation_8 : ∀ w ∈ wsX40, w ∈ wsL_typeQuotation := fun w h => List.mem_cons_of_mem _ (List.mem_append_left _ (List.mem_append_left _ (List.mem_append_left _ (List.mem_append_right _ h))))
theorem chi_typeQuotation : ∀ c ∈ ch_typeQuotation, ∀ w ∈ c, w ∈ wsL_typeQuotation := (List.forall_mem_cons.mpr ⟨chm_typeQuotation_0, (List.forall_mem_cons.mpr ⟨chm_typeQuotation_1, (List.forall_mem_cons.mpr ⟨chm_typeQuotation_2, (List.forall_mem_cons.mpr ⟨chm_typeQuotation_3, (List.forall_mem_cons.mpr ⟨chm_typeQuotation_4, (List.forall_mem_cons.mpr ⟨chm_typeQuotation_5, (List.forall_mem_cons.mpr ⟨chm_typeQuotation_6, (List.forall_mem_cons.mpr ⟨chm_typeQuotation_7, (List.forall_mem_cons.mpr ⟨chm_typeQuotation_8, (fun _ h => absurd h List.not_mem_nil)⟩)⟩)⟩)⟩)⟩)⟩)⟩)⟩)⟩)
set_option maxRecDepth 100000 in
theorem chg_typeQuotation : wsL_typeQuotation.all goodWord = true := by decide +kernel
set_option maxRecDepth 100000 in
theorem ggL_typeQuotation_L_low : GoodIn wsL_typeQuotation wsL_low := goodIn_ch ch_typeQuotation chi_typeQuotation chg_typeQuotation [(0, 3), (0, 4)] rfl
set_option maxRecDepth 100000 in
theorem gL_typeQuotation_L_low : GoodIn wsL_typeQuotation (va_wsS RL 166 yL_low wsL_low) := goodIn_app (goodIn_ch ch_typeQuotation chi_typeQuotation chg_typeQuotation [(0, 0), (0, 1), (0, 2)] rfl) ggL_typeQuotation_L_low
set_option maxRecDepth 100000 in
theorem ggL_typeQuotation_X10_append : GoodIn wsL_typeQuotation wsX10_append := goodIn_ca (goodIn_ca (goodIn_ch ch_typeQuotation chi_typeQuotation chg_typeQuotation [(0, 9), (0, 10), (0, 11), (0, 12), (0, 13), (0, 14), (0, 15), (0, 16), (0, 17), (0, 18), (0, 19), (0, 20), (0, 21), (0, 22), (0, 23), (1, 0), (1, 1), (1, 2), (1, 3), (4, 0), (4, 1), (4, 2), (4, 3), (4, 4), (4, 5), (4, 6), (5, 0), (5, 1), (6, 0)] rfl) (goodIn_sub (fun _ h => List.mem_cons_of_mem _ (List.mem_append_left _ (List.mem_append_left _ (List.mem_append_right _ h)))) (by decide +kernel))) (goodIn_sub (fun _ h => List.mem_cons_of_mem _ (List.mem_append_left _ (List.mem_append_right _ h))) (by decide +kernel))
set_option maxRecDepth 100000 in
theorem gL_typeQuotation_X10_append : GoodIn wsL_typeQuotation (wsV RL 169 RX10 yX10_append wsX10_append) := goodIn_app (goodIn_ch ch_typeQuotation chi_typeQuotation chg_typeQuotation [(0, 5), (0, 6), (0, 7), (0, 8)] rfl) ggL_typeQuotation_X10_append
set_option maxRecDepth 100000 in
theorem ggL_typeQuotation_L_typeSame : GoodIn wsL_typeQuotation wsL_typeSame := goodIn_ca (goodIn_ca (goodIn_ca (goodIn_ch ch_typeQuotation chi_typeQuotation chg_typeQuotation [(1, 6), (1, 7), (1, 8), (1, 9), (0, 8), (1, 10), (1, 11), (0, 0), (0, 1), (0, 2), (0, 3), (0, 4), (1, 12), (1, 13), (1, 14), (0, 5), (0, 6), (0, 7), (0, 9), (0, 10), (0, 11), (0, 12), (0, 13), (0, 14), (0, 15), (0, 16), (0, 17), (0, 18), (0, 19), (0, 20), (0, 21), (0, 22), (0, 23), (1, 0), (1, 1), (1, 2), (1, 3), (1, 15), (1, 16), (1, 17), (1, 18), (1, 19), (1, 20), (1, 21), (1, 22), (1, 23), (2, 0), (2, 1), (2, 2), (2, 3), (2, 4), (2, 5), (2, 6), (2, 7), (2, 8), (2, 9), (2, 10), (2, 11), (2, 12), (2, 13), (2, 14), (2, 15), (2, 16), (2, 17), (2, 18), (2, 19), (2, 20), (2, 21), (2, 22), (2, 23), (3, 0), (3, 1), (3, 2), (3, 3), (3, 4), (3, 5), (3, 6), (4, 0), (4, 1), (4, 2), (4, 3), (4, 4), (4, 5), (4, 6), (7, 0), (7, 1), (7, 2), (7, 3), (5, 0), (5, 1), (6, 0), (8, 0), (8, 1), (8, 2), (8, 3), (8, 4), (8, 5), (8, 6), (8, 7)] rfl) (goodIn_sub (fun _ h => List.mem_cons_of_mem _ (List.mem_append_left _ (List.mem_append_left _ (List.mem_append_right _ h)))) (by decide +kernel))) (goodIn_sub (fun _ h => List.mem_cons_of_mem _ (List.mem_append_left _ (List.mem_append_right _ h))) (by decide +kernel))) (goodIn_sub (fun _ h => List.mem_cons_of_mem _ (List.mem_append_right _ h)) (by decide +kernel))
set_option maxRecDepth 100000 in
theorem gL_typeQuotation_L_typeSame : GoodIn wsL_typeQuotation (va_wsS RL 176 yL_typeSame wsL_typeSame) := goodIn_app (goodIn_ch ch_typeQuotation chi_typeQuotation chg_typeQuotation [(1, 4), (1, 5), (0, 2)] rfl) ggL_typeQuotation_L_typeSame
theorem dL_typeQuotation_0 : decode cL_typeQuotation 0 = .ok (.iconst 1, 1) := by decide +kernel
theorem dL_typeQuotation_1 : decode cL_typeQuotation 1 = .ok (.iload_n 2, 1) := by decide +kernel
theorem dL_typeQuotation_2 : decode cL_typeQuotation 2 = .ok (.iconst 2, 1) := by decide +kernel
theorem dL_typeQuotation_3 : decode cL_typeQuotation 3 = .ok (.ishr, 1) := by decide +kernel
theorem dL_typeQuotation_4 : decode cL_typeQuotation 4 = .ok (.iconst 4, 1) := by decide +kernel
theorem dL_typeQuotation_5 : decode cL_typeQuotation 5 = .ok (.invokestatic 166, 3) := by decide +kernel
theorem dL_typeQuotation_8 : decode cL_typeQuotation 8 = .ok (.iadd, 1) := by decide +kernel
theorem dL_typeQuotation_9 : decode cL_typeQuotation 9 = .ok (.istore_n 3, 1) := by decide +kernel
theorem dL_typeQuotation_10 : decode cL_typeQuotation 10 = .ok (.iload_n 2, 1) := by decide +kernel
theorem dL_typeQuotation_11 : decode cL_typeQuotation 11 = .ok (.bipush 6, 2) := by decide +kernel
theorem dL_typeQuotation_13 : decode cL_typeQuotation 13 = .ok (.ishr, 1) := by decide +kernel
theorem dL_typeQuotation_14 : decode cL_typeQuotation 14 = .ok (.bipush 20, 2) := by decide +kernel
theorem dL_typeQuotation_16 : decode cL_typeQuotation 16 = .ok (.invokestatic 166, 3) := by decide +kernel
theorem dL_typeQuotation_19 : decode cL_typeQuotation 19 = .ok (.istore 4, 2) := by decide +kernel
theorem dL_typeQuotation_21 : decode cL_typeQuotation 21 = .ok (.aload_n 0, 1) := by decide +kernel
theorem dL_typeQuotation_22 : decode cL_typeQuotation 22 = .ok (.bipush 34, 2) := by decide +kernel
theorem dL_typeQuotation_24 : decode cL_typeQuotation 24 = .ok (.invokevirtual 169, 3) := by decide +kernel
theorem dL_typeQuotation_27 : decode cL_typeQuotation 27 = .ok (.istore 5, 2) := by decide +kernel
theorem dL_typeQuotation_29 : decode cL_typeQuotation 29 = .ok (.iconst 0, 1) := by decide +kernel
theorem dL_typeQuotation_30 : decode cL_typeQuotation 30 = .ok (.istore 6, 2) := by decide +kernel
theorem dL_typeQuotation_32 : decode cL_typeQuotation 32 = .ok (.iload 6, 2) := by decide +kernel
theorem dL_typeQuotation_34 : decode cL_typeQuotation 34 = .ok (.iload_n 3, 1) := by decide +kernel
theorem dL_typeQuotation_35 : decode cL_typeQuotation 35 = .ok (.if_icmp .ge 67, 3) := by decide +kernel
theorem dL_typeQuotation_38 : decode cL_typeQuotation 38 = .ok (.iload 6, 2) := by decide +kernel
theorem dL_typeQuotation_40 : decode cL_typeQuotation 40 = .ok (.ifCond .le 12, 3) := by decide +kernel
theorem dL_typeQuotation_43 : decode cL_typeQuotation 43 = .ok (.aload_n 0, 1) := by decide +kernel
theorem dL_typeQuotation_44 : decode cL_typeQuotation 44 = .ok (.bipush 32, 2) := by decide +kernel
theorem dL_typeQuotation_46 : decode cL_typeQuotation 46 = .ok (.invokevirtual 169, 3) := by decide +kernel
theorem dL_typeQuotation_49 : decode cL_typeQuotation 49 = .ok (.goto 5, 3) := by decide +kernel
theorem dL_typeQuotation_52 : decode cL_typeQuotation 52 = .ok (.iload 5, 2) := by decide +kernel
theorem dL_typeQuotation_54 : decode cL_typeQuotation 54 = .ok (.istore 5, 2) := by decide +kernel
theorem dL_typeQuotation_56 : decode cL_typeQuotation 56 = .ok (.aload_n 0, 1) := by decide +kernel
theorem dL_typeQuotation_57 : decode cL_typeQuotation 57 = .ok (.iload_n 1, 1) := by decide +kernel
theorem dL_typeQuotation_58 : decode cL_typeQuotation 58 = .ok (.iload 4, 2) := by decide +kernel
theorem dL_typeQuotation_60 : decode cL_typeQuotation 60 = .ok (.iload 6, 2) := by decide +kernel
theorem dL_typeQuotation_62 : decode cL_typeQuotation 62 = .ok (.iadd, 1) := by decide +kernel
theorem dL_typeQuotation_63 : decode cL_typeQuotation 63 = .ok (.iload_n 2, 1) := by decide +kernel
theorem dL_typeQuotation_64 : decode cL_typeQuotation 64 = .ok (.bipush 9, 2) := by decide +kernel
theorem dL_typeQuotation_66 : decode cL_typeQuotation 66 = .ok (.ishr, 1) := by decide +kernel
theorem dL_typeQuotation_67 : decode cL_typeQuotation 67 = .ok (.iconst 5, 1) := by decide +kernel
theorem dL_typeQuotation_68 : decode cL_typeQuotation 68 = .ok (.invokestatic 166, 3) := by decide +kernel
theorem dL_typeQuotation_71 : decode cL_typeQuotation 71 = .ok (.ifCond .ne 8, 3) := by decide +kernel
theorem dL_typeQuotation_74 : decode cL_typeQuotation 74 = .ok (.iload 6, 2) := by decide +kernel
theorem dL_typeQuotation_76 : decode cL_typeQuotation 76 = .ok (.goto 4, 3) := by decide +kernel
theorem dL_typeQuotation_79 : decode cL_typeQuotation 79 = .ok (.iconst 0, 1) := by decide +kernel
theorem dL_typeQuotation_80 : decode cL_typeQuotation 80 = .ok (.iadd, 1) := by decide +kernel
theorem dL_typeQuotation_81 : decode cL_typeQuotation 81 = .ok (.iload_n 2, 1) := by decide +kernel
theorem dL_typeQuotation_82 : decode cL_typeQuotation 82 = .ok (.iload 6, 2) := by decide +kernel
theorem dL_typeQuotation_84 : decode cL_typeQuotation 84 = .ok (.ishr, 1) := by decide +kernel
theorem dL_typeQuotation_85 : decode cL_typeQuotation 85 = .ok (.bipush 7, 2) := by decide +kernel
theorem dL_typeQuotation_87 : decode cL_typeQuotation 87 = .ok (.iload 6, 2) := by decide +kernel
theorem dL_typeQuotation_89 : decode cL_typeQuotation 89 = .ok (.imul, 1) := by decide +kernel
theorem dL_typeQuotation_90 : decode cL_typeQuotation 90 = .ok (.ixor, 1) := by decide +kernel
theorem dL_typeQuotation_91 : decode cL_typeQuotation 91 = .ok (.invokestatic 176, 3) := by decide +kernel
theorem dL_typeQuotation_94 : decode cL_typeQuotation 94 = .ok (.istore 5, 2) := by decide +kernel
theorem dL_typeQuotation_96 : decode cL_typeQuotation 96 = .ok (.iinc 6 1, 3) := by decide +kernel
theorem dL_typeQuotation_99 : decode cL_typeQuotation 99 = .ok (.goto (-67), 3) := by decide +kernel
theorem dL_typeQuotation_102 : decode cL_typeQuotation 102 = .ok (.aload_n 0, 1) := by decide +kernel
theorem dL_typeQuotation_103 : decode cL_typeQuotation 103 = .ok (.bipush 34, 2) := by decide +kernel
theorem dL_typeQuotation_105 : decode cL_typeQuotation 105 = .ok (.invokevirtual 169, 3) := by decide +kernel
theorem dL_typeQuotation_108 : decode cL_typeQuotation 108 = .ok (.aload_n 0, 1) := by decide +kernel
theorem dL_typeQuotation_109 : decode cL_typeQuotation 109 = .ok (.bipush 64, 2) := by decide +kernel
theorem dL_typeQuotation_111 : decode cL_typeQuotation 111 = .ok (.invokevirtual 169, 3) := by decide +kernel
theorem dL_typeQuotation_114 : decode cL_typeQuotation 114 = .ok (.iadd, 1) := by decide +kernel
theorem dL_typeQuotation_115 : decode cL_typeQuotation 115 = .ok (.istore 5, 2) := by decide +kernel
theorem dL_typeQuotation_117 : decode cL_typeQuotation 117 = .ok (.iload_n 1, 1) := by decide +kernel
theorem dL_typeQuotation_118 : decode cL_typeQuotation 118 = .ok (.bipush 9, 2) := by decide +kernel
theorem dL_typeQuotation_120 : decode cL_typeQuotation 120 = .ok (.if_icmp .le 12, 3) := by decide +kernel
theorem dL_typeQuotation_123 : decode cL_typeQuotation 123 = .ok (.aload_n 0, 1) := by decide +kernel
theorem dL_typeQuotation_124 : decode cL_typeQuotation 124 = .ok (.bipush 49, 2) := by decide +kernel
theorem dL_typeQuotation_126 : decode cL_typeQuotation 126 = .ok (.invokevirtual 169, 3) := by decide +kernel
theorem dL_typeQuotation_129 : decode cL_typeQuotation 129 = .ok (.goto 5, 3) := by decide +kernel
theorem dL_typeQuotation_132 : decode cL_typeQuotation 132 = .ok (.iload 5, 2) := by decide +kernel
theorem dL_typeQuotation_134 : decode cL_typeQuotation 134 = .ok (.istore 5, 2) := by decide +kernel
theorem dL_typeQuotation_136 : decode cL_typeQuotation 136 = .ok (.aload_n 0, 1) := by decide +kernel
theorem dL_typeQuotation_137 : decode cL_typeQuotation 137 = .ok (.bipush 48, 2) := by decide +kernel
theorem dL_typeQuotation_139 : decode cL_typeQuotation 139 = .ok (.iload_n 1, 1) := by decide +kernel
theorem dL_typeQuotation_140 : decode cL_typeQuotation 140 = .ok (.bipush 10, 2) := by decide +kernel
theorem dL_typeQuotation_142 : decode cL_typeQuotation 142 = .ok (.irem, 1) := by decide +kernel
theorem dL_typeQuotation_143 : decode cL_typeQuotation 143 = .ok (.iadd, 1) := by decide +kernel
theorem dL_typeQuotation_144 : decode cL_typeQuotation 144 = .ok (.invokevirtual 169, 3) := by decide +kernel
theorem dL_typeQuotation_147 : decode cL_typeQuotation 147 = .ok (.ireturn, 1) := by decide +kernel
