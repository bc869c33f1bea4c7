theorem wsL_law_r1_of : ∀ w ∈ wsL_law_r1, w ∈ wsL_law := fun w hw => by simp only [wsL_law, List.mem_cons, List.mem_append, hw, true_or, or_true]
theorem wsL_law_r2_of : ∀ w ∈ wsL_law_r2, w ∈ wsL_law := fun w hw => by simp only [wsL_law, List.mem_cons, List.mem_append, hw, true_or, or_true]
theorem wsL_law_r3_of : ∀ w ∈ wsL_law_r3, w ∈ wsL_law := fun w hw => by simp only [wsL_law, List.mem_cons, List.mem_append, hw, true_or, or_true]
theorem wsL_law_r4_of : ∀ w ∈ wsL_law_r4, w ∈ wsL_law := fun w hw => by simp only [wsL_law, List.mem_cons, List.mem_append, hw, true_or, or_true]
theorem wsL_law_r5_of : ∀ w ∈ wsL_law_r5, w ∈ wsL_law := fun w hw => by simp only [wsL_law, List.mem_cons, List.mem_append, hw, true_or, or_true]
theorem wsL_law_r6_of : ∀ w ∈ wsL_law_r6, w ∈ wsL_law := fun w hw => by simp only [wsL_law, List.mem_cons, List.mem_append, hw, true_or, or_true]
theorem wsL_law_r7_of : ∀ w ∈ wsL_law_r7, w ∈ wsL_law := fun w hw => by simp only [wsL_law, List.mem_cons, List.mem_append, hw, true_or, or_true]
theorem wsL_law_r8_of : ∀ w ∈ wsL_law_r8, w ∈ wsL_law := fun w hw => by simp only [wsL_law, List.mem_cons, List.mem_append, hw, true_or, or_true]
theorem wsL_law_r9_of : ∀ w ∈ wsL_law_r9, w ∈ wsL_law := fun w hw => by simp only [wsL_law, List.mem_cons, List.mem_append, hw, true_or, or_true]
theorem wsL_law_r10_of : ∀ w ∈ wsL_law_r10, w ∈ wsL_law := fun w hw => by simp only [wsL_law, List.mem_cons, List.mem_append, hw, true_or, or_true]
theorem wsL_law_r11_of : ∀ w ∈ wsL_law_r11, w ∈ wsL_law := fun w hw => by simp only [wsL_law, List.mem_cons, List.mem_append, hw, true_or, or_true]
theorem wsL_law_r12_of : ∀ w ∈ wsL_law_r12, w ∈ wsL_law := fun w hw => by simp only [wsL_law, List.mem_cons, List.mem_append, hw, true_or, or_true]
theorem wsL_law_r13_of : ∀ w ∈ wsL_law_r13, w ∈ wsL_law := fun w hw => by simp only [wsL_law, List.mem_cons, List.mem_append, hw, true_or, or_true]
theorem wsL_law_r14_of : ∀ w ∈ wsL_law_r14, w ∈ wsL_law := fun w hw => by simp only [wsL_law, List.mem_cons, List.mem_append, hw, true_or, or_true]
theorem wsL_law_r15_of : ∀ w ∈ wsL_law_r15, w ∈ wsL_law := fun w hw => by simp only [wsL_law, List.mem_cons, List.mem_append, hw, true_or, or_true]
theorem wsL_law_r16_of : ∀ w ∈ wsL_law_r16, w ∈ wsL_law := fun w hw => by simp only [wsL_law, List.mem_cons, List.mem_append, hw, true_or, or_true]
theorem wsL_law_r17_of : ∀ w ∈ wsL_law_r17, w ∈ wsL_law := fun w hw => by simp only [wsL_law, List.mem_cons, List.mem_append, hw, true_or, or_true]
theorem wsL_law_r18_of : ∀ w ∈ wsL_law_r18, w ∈ wsL_law := fun w hw => by simp only [wsL_law, List.mem_cons, List.mem_append, hw, true_or, or_true]
theorem wsL_law_r19_of : ∀ w ∈ wsL_law_r19, w ∈ wsL_law := fun w hw => by simp only [wsL_law, List.mem_cons, List.mem_append, hw, true_or, or_true]
theorem wsL_law_r20_of : ∀ w ∈ wsL_law_r20, w ∈ wsL_law := fun w hw => by simp only [wsL_law, List.mem_cons, List.mem_append, hw, true_or, or_true]
theorem wsL_law_r21_of : ∀ w ∈ wsL_law_r21, w ∈ wsL_law := fun w hw => by simp only [wsL_law, List.mem_cons, List.mem_append, hw, true_or, or_true]
theorem wsL_law_wsX50 : ∀ w ∈ wsX50, w ∈ wsL_law := fun w hw => (show w ∈ _ from by
  have h := hw
  unfold wsL_law
  generalize wsX50 = z at h ⊢
  simp only [List.mem_cons, List.mem_append, h, true_or, or_true])
theorem wsL_law_wsX40 : ∀ w ∈ wsX40, w ∈ wsL_law := fun w hw => (show w ∈ _ from by
  have h := hw
  unfold wsL_law
  generalize wsX40 = z at h ⊢
  simp only [List.mem_cons, List.mem_append, h, true_or, or_true])
theorem wsL_law_wsX10 : ∀ w ∈ wsX10, w ∈ wsL_law := fun w hw => (show w ∈ _ from by
  have h := hw
  unfold wsL_law
  generalize wsX10 = z at h ⊢
  simp only [List.mem_cons, List.mem_append, h, true_or, or_true])
theorem wsL_law_wsX20 : ∀ w ∈ wsX20, w ∈ wsL_law := fun w hw => (show w ∈ _ from by
  have h := hw
  unfold wsL_law
  generalize wsX20 = z at h ⊢
  simp only [List.mem_cons, List.mem_append, h, true_or, or_true])
theorem wsL_law_wsX00 : ∀ w ∈ wsX00, w ∈ wsL_law := fun w hw => (show w ∈ _ from by
  have h := hw
  unfold wsL_law
  generalize wsX00 = z at h ⊢
  simp only [List.mem_cons, List.mem_append, h, true_or, or_true])
theorem wsL_law_wsX30 : ∀ w ∈ wsX30, w ∈ wsL_law := fun w hw => (show w ∈ _ from by
  have h := hw
  unfold wsL_law
  generalize wsX30 = z at h ⊢
  simp only [List.mem_cons, List.mem_append, h, true_or, or_true])
set_option maxRecDepth 20000 in
theorem gi_L_law_X5_init_0 : GoodIn wsL_law wsX5_init_r1 := gi_l (by
  unfold wsX5_init_r1
  exact fm (wsL_law_r1_of _ (List.mem_of_getElem? (i := 10) rfl)) (fm (wsL_law_r1_of _ (List.mem_of_getElem? (i := 11) rfl)) (fm (wsL_law_r1_of _ (List.mem_of_getElem? (i := 12) rfl)) (fm (wsL_law_r1_of _ (List.mem_of_getElem? (i := 13) rfl)) (fm (wsL_law_r1_of _ (List.mem_of_getElem? (i := 14) rfl)) (fm (wsL_law_r1_of _ (List.mem_of_getElem? (i := 15) rfl)) (fm (wsL_law_r1_of _ (List.mem_of_getElem? (i := 16) rfl)) (fm (wsL_law_r1_of _ (List.mem_of_getElem? (i := 17) rfl)) (fm (wsL_law_r1_of _ (List.mem_of_getElem? (i := 18) rfl)) (fm (wsL_law_r1_of _ (List.mem_of_getElem? (i := 19) rfl)) (fm (wsL_law_r1_of _ (List.mem_of_getElem? (i := 20) rfl)) (fm (wsL_law_r1_of _ (List.mem_of_getElem? (i := 21) rfl)) (fm (wsL_law_r1_of _ (List.mem_of_getElem? (i := 22) rfl)) (fm (wsL_law_r1_of _ (List.mem_of_getElem? (i := 23) rfl)) (fm (wsL_law_r2_of _ (List.mem_of_getElem? (i := 0) rfl)) (fm (wsL_law_r2_of _ (List.mem_of_getElem? (i := 1) rfl)) (fm (wsL_law_r2_of _ (List.mem_of_getElem? (i := 2) rfl)) (fm (wsL_law_r2_of _ (List.mem_of_getElem? (i := 3) rfl)) (fm (wsL_law_r2_of _ (List.mem_of_getElem? (i := 4) rfl)) (fm (wsL_law_r2_of _ (List.mem_of_getElem? (i := 5) rfl)) (fm (wsL_law_r2_of _ (List.mem_of_getElem? (i := 6) rfl)) (fm (wsL_law_r2_of _ (List.mem_of_getElem? (i := 7) rfl)) (fm (wsL_law_r2_of _ (List.mem_of_getElem? (i := 8) rfl)) (fm (wsL_law_r2_of _ (List.mem_of_getElem? (i := 9) rfl)) (fm0))))))))))))))))))))))))) (by decide +kernel)
set_option maxRecDepth 20000 in
theorem gi_L_law_X5_init_1 : GoodIn wsL_law wsX5_init_r2 := gi_l (by
  unfold wsX5_init_r2
  exact fm (wsL_law_r2_of _ (List.mem_of_getElem? (i := 10) rfl)) (fm (wsL_law_r2_of _ (List.mem_of_getElem? (i := 11) rfl)) (fm (wsL_law_r2_of _ (List.mem_of_getElem? (i := 12) rfl)) (fm (wsL_law_r2_of _ (List.mem_of_getElem? (i := 13) rfl)) (fm (wsL_law_r1_of _ (List.mem_of_getElem? (i := 3) rfl)) (fm (wsL_law_r2_of _ (List.mem_of_getElem? (i := 14) rfl)) (fm (wsL_law_r2_of _ (List.mem_of_getElem? (i := 15) rfl)) (fm (wsL_law_r2_of _ (List.mem_of_getElem? (i := 16) rfl)) (fm (wsL_law_r2_of _ (List.mem_of_getElem? (i := 17) rfl)) (fm (wsL_law_r2_of _ (List.mem_of_getElem? (i := 18) rfl)) (fm (wsL_law_r2_of _ (List.mem_of_getElem? (i := 19) rfl)) (fm (wsL_law_r2_of _ (List.mem_of_getElem? (i := 20) rfl)) (fm (wsL_law_r2_of _ (List.mem_of_getElem? (i := 21) rfl)) (fm (wsL_law_r2_of _ (List.mem_of_getElem? (i := 22) rfl)) (fm (wsL_law_r2_of _ (List.mem_of_getElem? (i := 23) rfl)) (fm (wsL_law_r3_of _ (List.mem_of_getElem? (i := 0) rfl)) (fm (wsL_law_r3_of _ (List.mem_of_getElem? (i := 1) rfl)) (fm (wsL_law_r3_of _ (List.mem_of_getElem? (i := 2) rfl)) (fm (wsL_law_r3_of _ (List.mem_of_getElem? (i := 3) rfl)) (fm (wsL_law_r3_of _ (List.mem_of_getElem? (i := 4) rfl)) (fm (wsL_law_r3_of _ (List.mem_of_getElem? (i := 5) rfl)) (fm (wsL_law_r3_of _ (List.mem_of_getElem? (i := 6) rfl)) (fm (wsL_law_r3_of _ (List.mem_of_getElem? (i := 7) rfl)) (fm (wsL_law_r3_of _ (List.mem_of_getElem? (i := 8) rfl)) (fm0))))))))))))))))))))))))) (by decide +kernel)
set_option maxRecDepth 20000 in
theorem gi_L_law_X5_init_2 : GoodIn wsL_law wsX5_init_r3 := gi_l (by
  unfold wsX5_init_r3
  exact fm (wsL_law_r3_of _ (List.mem_of_getElem? (i := 9) rfl)) (fm (wsL_law_r3_of _ (List.mem_of_getElem? (i := 10) rfl)) (fm (wsL_law_r3_of _ (List.mem_of_getElem? (i := 11) rfl)) (fm (wsL_law_r3_of _ (List.mem_of_getElem? (i := 12) rfl)) (fm (wsL_law_r3_of _ (List.mem_of_getElem? (i := 13) rfl)) (fm (wsL_law_r3_of _ (List.mem_of_getElem? (i := 14) rfl)) (fm (wsL_law_r3_of _ (List.mem_of_getElem? (i := 15) rfl)) (fm (wsL_law_r3_of _ (List.mem_of_getElem? (i := 16) rfl)) (fm (wsL_law_r3_of _ (List.mem_of_getElem? (i := 17) rfl)) (fm (wsL_law_r3_of _ (List.mem_of_getElem? (i := 18) rfl)) (fm (wsL_law_r3_of _ (List.mem_of_getElem? (i := 19) rfl)) (fm (wsL_law_r3_of _ (List.mem_of_getElem? (i := 20) rfl)) (fm (wsL_law_r3_of _ (List.mem_of_getElem? (i := 21) rfl)) (fm (wsL_law_r3_of _ (List.mem_of_getElem? (i := 22) rfl)) (fm (wsL_law_r3_of _ (List.mem_of_getElem? (i := 23) rfl)) (fm (wsL_law_r4_of _ (List.mem_of_getElem? (i := 0) rfl)) (fm (wsL_law_r4_of _ (List.mem_of_getElem? (i := 1) rfl)) (fm (wsL_law_r4_of _ (List.mem_of_getElem? (i := 2) rfl)) (fm (wsL_law_r4_of _ (List.mem_of_getElem? (i := 3) rfl)) (fm (wsL_law_r4_of _ (List.mem_of_getElem? (i := 4) rfl)) (fm (wsL_law_r4_of _ (List.mem_of_getElem? (i := 5) rfl)) (fm (wsL_law_r4_of _ (List.mem_of_getElem? (i := 6) rfl)) (fm0))))))))))))))))))))))) (by decide +kernel)
theorem ggL_law_X5_init : GoodIn wsL_law wsX5_init := gi_c (gi_l (fm (wsL_law_r1_of _ (List.mem_of_getElem? (i := 9) rfl)) fm0) (by decide +kernel)) (goodIn_app (goodIn_app (goodIn_app (goodIn_app (goodIn_app (goodIn_app (goodIn_app gi_L_law_X5_init_0 (goodIn_app gi_L_law_X5_init_1 (gi_L_law_X5_init_2))) (gi_l wsL_law_wsX40 (by decide +kernel))) (gi_l wsL_law_wsX50 (by decide +kernel))) (gi_l wsL_law_wsX10 (by decide +kernel))) (gi_l wsL_law_wsX20 (by decide +kernel))) (gi_l wsL_law_wsX00 (by decide +kernel))) (gi_l wsL_law_wsX30 (by decide +kernel)))
theorem gL_law_X5_init : GoodIn wsL_law (wsX5_init) := ggL_law_X5_init
set_option maxRecDepth 20000 in
theorem gi_L_law_L_isSo_0 : GoodIn wsL_law wsL_isSo_r1 := gi_l (by
  unfold wsL_isSo_r1
  exact fm (wsL_law_r1_of _ (List.mem_of_getElem? (i := 6) rfl)) (fm (wsL_law_r4_of _ (List.mem_of_getElem? (i := 11) rfl)) (fm (wsL_law_r4_of _ (List.mem_of_getElem? (i := 12) rfl)) (fm (wsL_law_r4_of _ (List.mem_of_getElem? (i := 9) rfl)) (fm (wsL_law_r4_of _ (List.mem_of_getElem? (i := 13) rfl)) (fm (wsL_law_r4_of _ (List.mem_of_getElem? (i := 14) rfl)) (fm (wsL_law_r4_of _ (List.mem_of_getElem? (i := 15) rfl)) (fm (wsL_law_r4_of _ (List.mem_of_getElem? (i := 16) rfl)) (fm (wsL_law_r4_of _ (List.mem_of_getElem? (i := 17) rfl)) (fm (wsL_law_r1_of _ (List.mem_of_getElem? (i := 2) rfl)) (fm (wsL_law_r4_of _ (List.mem_of_getElem? (i := 18) rfl)) (fm (wsL_law_r4_of _ (List.mem_of_getElem? (i := 19) rfl)) (fm (wsL_law_r1_of _ (List.mem_of_getElem? (i := 16) rfl)) (fm (wsL_law_r4_of _ (List.mem_of_getElem? (i := 20) rfl)) (fm (wsL_law_r4_of _ (List.mem_of_getElem? (i := 21) rfl)) (fm (wsL_law_r4_of _ (List.mem_of_getElem? (i := 22) rfl)) (fm (wsL_law_r4_of _ (List.mem_of_getElem? (i := 23) rfl)) (fm (wsL_law_r2_of _ (List.mem_of_getElem? (i := 12) rfl)) (fm (wsL_law_r5_of _ (List.mem_of_getElem? (i := 0) rfl)) (fm (wsL_law_r3_of _ (List.mem_of_getElem? (i := 9) rfl)) (fm (wsL_law_r3_of _ (List.mem_of_getElem? (i := 6) rfl)) (fm (wsL_law_r5_of _ (List.mem_of_getElem? (i := 1) rfl)) (fm (wsL_law_r5_of _ (List.mem_of_getElem? (i := 2) rfl)) (fm (wsL_law_r5_of _ (List.mem_of_getElem? (i := 3) rfl)) (fm0))))))))))))))))))))))))) (by decide +kernel)
set_option maxRecDepth 20000 in
theorem gi_L_law_L_isSo_1 : GoodIn wsL_law wsL_isSo_r2 := gi_l (by
  unfold wsL_isSo_r2
  exact fm (wsL_law_r5_of _ (List.mem_of_getElem? (i := 4) rfl)) (fm (wsL_law_r5_of _ (List.mem_of_getElem? (i := 5) rfl)) (fm (wsL_law_r5_of _ (List.mem_of_getElem? (i := 6) rfl)) (fm (wsL_law_r5_of _ (List.mem_of_getElem? (i := 7) rfl)) (fm (wsL_law_r5_of _ (List.mem_of_getElem? (i := 8) rfl)) (fm (wsL_law_r5_of _ (List.mem_of_getElem? (i := 9) rfl)) (fm (wsL_law_r5_of _ (List.mem_of_getElem? (i := 10) rfl)) (fm (wsL_law_r5_of _ (List.mem_of_getElem? (i := 11) rfl)) (fm (wsL_law_r5_of _ (List.mem_of_getElem? (i := 12) rfl)) (fm (wsL_law_r5_of _ (List.mem_of_getElem? (i := 13) rfl)) (fm (wsL_law_r5_of _ (List.mem_of_getElem? (i := 14) rfl)) (fm (wsL_law_r5_of _ (List.mem_of_getElem? (i := 15) rfl)) (fm (wsL_law_r5_of _ (List.mem_of_getElem? (i := 16) rfl)) (fm (wsL_law_r3_of _ (List.mem_of_getElem? (i := 7) rfl)) (fm (wsL_law_r5_of _ (List.mem_of_getElem? (i := 17) rfl)) (fm (wsL_law_r5_of _ (List.mem_of_getElem? (i := 18) rfl)) (fm (wsL_law_r5_of _ (List.mem_of_getElem? (i := 19) rfl)) (fm (wsL_law_r5_of _ (List.mem_of_getElem? (i := 20) rfl)) (fm (wsL_law_r5_of _ (List.mem_of_getElem? (i := 21) rfl)) (fm (wsL_law_r5_of _ (List.mem_of_getElem? (i := 22) rfl)) (fm (wsL_law_r5_of _ (List.mem_of_getElem? (i := 23) rfl)) (fm (wsL_law_r6_of _ (List.mem_of_getElem? (i := 0) rfl)) (fm (wsL_law_r6_of _ (List.mem_of_getElem? (i := 1) rfl)) (fm (wsL_law_r6_of _ (List.mem_of_getElem? (i := 2) rfl)) (fm0))))))))))))))))))))))))) (by decide +kernel)
set_option maxRecDepth 20000 in
theorem gi_L_law_L_isSo_2 : GoodIn wsL_law wsL_isSo_r3 := gi_l (by
  unfold wsL_isSo_r3
  exact fm (wsL_law_r6_of _ (List.mem_of_getElem? (i := 3) rfl)) (fm (wsL_law_r6_of _ (List.mem_of_getElem? (i := 4) rfl)) (fm (wsL_law_r6_of _ (List.mem_of_getElem? (i := 5) rfl)) (fm (wsL_law_r6_of _ (List.mem_of_getElem? (i := 6) rfl)) (fm (wsL_law_r6_of _ (List.mem_of_getElem? (i := 7) rfl)) (fm (wsL_law_r6_of _ (List.mem_of_getElem? (i := 8) rfl)) (fm (wsL_law_r6_of _ (List.mem_of_getElem? (i := 9) rfl)) (fm (wsL_law_r6_of _ (List.mem_of_getElem? (i := 10) rfl)) (fm (wsL_law_r1_of _ (List.mem_of_getElem? (i := 15) rfl)) (fm (wsL_law_r6_of _ (List.mem_of_getElem? (i := 11) rfl)) (fm (wsL_law_r2_of _ (List.mem_of_getElem? (i := 9) rfl)) (fm (wsL_law_r2_of _ (List.mem_of_getElem? (i := 13) rfl)) (fm (wsL_law_r6_of _ (List.mem_of_getElem? (i := 12) rfl)) (fm (wsL_law_r6_of _ (List.mem_of_getElem? (i := 13) rfl)) (fm (wsL_law_r6_of _ (List.mem_of_getElem? (i := 14) rfl)) (fm (wsL_law_r6_of _ (List.mem_of_getElem? (i := 15) rfl)) (fm (wsL_law_r3_of _ (List.mem_of_getElem? (i := 8) rfl)) (fm (wsL_law_r6_of _ (List.mem_of_getElem? (i := 16) rfl)) (fm (wsL_law_r6_of _ (List.mem_of_getElem? (i := 17) rfl)) (fm (wsL_law_r6_of _ (List.mem_of_getElem? (i := 18) rfl)) (fm (wsL_law_r2_of _ (List.mem_of_getElem? (i := 8) rfl)) (fm (wsL_law_r6_of _ (List.mem_of_getElem? (i := 19) rfl)) (fm (wsL_law_r6_of _ (List.mem_of_getElem? (i := 20) rfl)) (fm (wsL_law_r6_of _ (List.mem_of_getElem? (i := 21) rfl)) (fm0))))))))))))))))))))))))) (by decide +kernel)
set_option maxRecDepth 20000 in
theorem gi_L_law_L_isSo_3 : GoodIn wsL_law wsL_isSo_r4 := gi_l (by
  unfold wsL_isSo_r4
  exact fm (wsL_law_r6_of _ (List.mem_of_getElem? (i := 22) rfl)) (fm (wsL_law_r6_of _ (List.mem_of_getElem? (i := 23) rfl)) (fm (wsL_law_r2_of _ (List.mem_of_getElem? (i := 22) rfl)) (fm (wsL_law_r7_of _ (List.mem_of_getElem? (i := 0) rfl)) (fm (wsL_law_r7_of _ (List.mem_of_getElem? (i := 1) rfl)) (fm (wsL_law_r7_of _ (List.mem_of_getElem? (i := 2) rfl)) (fm (wsL_law_r7_of _ (List.mem_of_getElem? (i := 3) rfl)) (fm (wsL_law_r7_of _ (List.mem_of_getElem? (i := 4) rfl)) (fm (wsL_law_r7_of _ (List.mem_of_getElem? (i := 5) rfl)) (fm (wsL_law_r7_of _ (List.mem_of_getElem? (i := 6) rfl)) (fm (wsL_law_r7_of _ (List.mem_of_getElem? (i := 7) rfl)) (fm (wsL_law_r7_of _ (List.mem_of_getElem? (i := 8) rfl)) (fm (wsL_law_r7_of _ (List.mem_of_getElem? (i := 9) rfl)) (fm (wsL_law_r7_of _ (List.mem_of_getElem? (i := 10) rfl)) (fm (wsL_law_r7_of _ (List.mem_of_getElem? (i := 11) rfl)) (fm (wsL_law_r7_of _ (List.mem_of_getElem? (i := 12) rfl)) (fm (wsL_law_r7_of _ (List.mem_of_getElem? (i := 13) rfl)) (fm (wsL_law_r7_of _ (List.mem_of_getElem? (i := 14) rfl)) (fm (wsL_law_r7_of _ (List.mem_of_getElem? (i := 15) rfl)) (fm (wsL_law_r7_of _ (List.mem_of_getElem? (i := 16) rfl)) (fm (wsL_law_r7_of _ (List.mem_of_getElem? (i := 17) rfl)) (fm (wsL_law_r2_of _ (List.mem_of_getElem? (i := 23) rfl)) (fm (wsL_law_r7_of _ (List.mem_of_getElem? (i := 18) rfl)) (fm (wsL_law_r7_of _ (List.mem_of_getElem? (i := 19) rfl)) (fm0))))))))))))))))))))))))) (by decide +kernel)
set_option maxRecDepth 20000 in
theorem gi_L_law_L_isSo_4 : GoodIn wsL_law wsL_isSo_r5 := gi_l (by
  unfold wsL_isSo_r5
  exact fm (wsL_law_r7_of _ (List.mem_of_getElem? (i := 20) rfl)) (fm (wsL_law_r7_of _ (List.mem_of_getElem? (i := 21) rfl)) (fm (wsL_law_r7_of _ (List.mem_of_getElem? (i := 22) rfl)) (fm (wsL_law_r7_of _ (List.mem_of_getElem? (i := 23) rfl)) (fm (wsL_law_r8_of _ (List.mem_of_getElem? (i := 0) rfl)) (fm (wsL_law_r8_of _ (List.mem_of_getElem? (i := 1) rfl)) (fm (wsL_law_r8_of _ (List.mem_of_getElem? (i := 2) rfl)) (fm (wsL_law_r8_of _ (List.mem_of_getElem? (i := 3) rfl)) (fm (wsL_law_r8_of _ (List.mem_of_getElem? (i := 4) rfl)) (fm (wsL_law_r8_of _ (List.mem_of_getElem? (i := 5) rfl)) (fm (wsL_law_r8_of _ (List.mem_of_getElem? (i := 6) rfl)) (fm (wsL_law_r8_of _ (List.mem_of_getElem? (i := 7) rfl)) (fm (wsL_law_r8_of _ (List.mem_of_getElem? (i := 8) rfl)) (fm (wsL_law_r8_of _ (List.mem_of_getElem? (i := 9) rfl)) (fm (wsL_law_r8_of _ (List.mem_of_getElem? (i := 10) rfl)) (fm (wsL_law_r8_of _ (List.mem_of_getElem? (i := 11) rfl)) (fm (wsL_law_r2_of _ (List.mem_of_getElem? (i := 14) rfl)) (fm (wsL_law_r8_of _ (List.mem_of_getElem? (i := 12) rfl)) (fm (wsL_law_r8_of _ (List.mem_of_getElem? (i := 13) rfl)) (fm (wsL_law_r8_of _ (List.mem_of_getElem? (i := 14) rfl)) (fm (wsL_law_r8_of _ (List.mem_of_getElem? (i := 15) rfl)) (fm (wsL_law_r8_of _ (List.mem_of_getElem? (i := 16) rfl)) (fm (wsL_law_r8_of _ (List.mem_of_getElem? (i := 17) rfl)) (fm (wsL_law_r8_of _ (List.mem_of_getElem? (i := 18) rfl)) (fm0))))))))))))))))))))))))) (by decide +kernel)
set_option maxRecDepth 20000 in
theorem gi_L_law_L_isSo_5 : GoodIn wsL_law wsL_isSo_r6 := gi_l (by
  unfold wsL_isSo_r6
  exact fm (wsL_law_r8_of _ (List.mem_of_getElem? (i := 19) rfl)) (fm (wsL_law_r8_of _ (List.mem_of_getElem? (i := 20) rfl)) (fm (wsL_law_r8_of _ (List.mem_of_getElem? (i := 21) rfl)) (fm (wsL_law_r8_of _ (List.mem_of_getElem? (i := 22) rfl)) (fm (wsL_law_r8_of _ (List.mem_of_getElem? (i := 23) rfl)) (fm (wsL_law_r9_of _ (List.mem_of_getElem? (i := 0) rfl)) (fm (wsL_law_r9_of _ (List.mem_of_getElem? (i := 1) rfl)) (fm (wsL_law_r9_of _ (List.mem_of_getElem? (i := 2) rfl)) (fm (wsL_law_r9_of _ (List.mem_of_getElem? (i := 3) rfl)) (fm (wsL_law_r9_of _ (List.mem_of_getElem? (i := 4) rfl)) (fm (wsL_law_r9_of _ (List.mem_of_getElem? (i := 5) rfl)) (fm (wsL_law_r9_of _ (List.mem_of_getElem? (i := 6) rfl)) (fm (wsL_law_r9_of _ (List.mem_of_getElem? (i := 7) rfl)) (fm (wsL_law_r9_of _ (List.mem_of_getElem? (i := 8) rfl)) (fm (wsL_law_r9_of _ (List.mem_of_getElem? (i := 9) rfl)) (fm (wsL_law_r9_of _ (List.mem_of_getElem? (i := 10) rfl)) (fm (wsL_law_r9_of _ (List.mem_of_getElem? (i := 11) rfl)) (fm (wsL_law_r9_of _ (List.mem_of_getElem? (i := 12) rfl)) (fm (wsL_law_r9_of _ (List.mem_of_getElem? (i := 13) rfl)) (fm (wsL_law_r9_of _ (List.mem_of_getElem? (i := 14) rfl)) (fm (wsL_law_r9_of _ (List.mem_of_getElem? (i := 15) rfl)) (fm (wsL_law_r9_of _ (List.mem_of_getElem? (i := 16) rfl)) (fm (wsL_law_r9_of _ (List.mem_of_getElem? (i := 17) rfl)) (fm (wsL_law_r9_of _ (List.mem_of_getElem? (i := 18) rfl)) (fm0))))))))))))))))))))))))) (by decide +kernel)
set_option maxRecDepth 20000 in
theorem gi_L_law_L_isSo_6 : GoodIn wsL_law wsL_isSo_r7 := gi_l (by
  unfold wsL_isSo_r7
  exact fm (wsL_law_r9_of _ (List.mem_of_getElem? (i := 19) rfl)) (fm (wsL_law_r9_of _ (List.mem_of_getElem? (i := 20) rfl)) (fm (wsL_law_r9_of _ (List.mem_of_getElem? (i := 21) rfl)) (fm (wsL_law_r9_of _ (List.mem_of_getElem? (i := 22) rfl)) (fm (wsL_law_r9_of _ (List.mem_of_getElem? (i := 23) rfl)) (fm (wsL_law_r10_of _ (List.mem_of_getElem? (i := 0) rfl)) (fm (wsL_law_r10_of _ (List.mem_of_getElem? (i := 1) rfl)) (fm (wsL_law_r10_of _ (List.mem_of_getElem? (i := 2) rfl)) (fm (wsL_law_r10_of _ (List.mem_of_getElem? (i := 3) rfl)) (fm (wsL_law_r10_of _ (List.mem_of_getElem? (i := 4) rfl)) (fm (wsL_law_r10_of _ (List.mem_of_getElem? (i := 5) rfl)) (fm (wsL_law_r10_of _ (List.mem_of_getElem? (i := 6) rfl)) (fm (wsL_law_r10_of _ (List.mem_of_getElem? (i := 7) rfl)) (fm (wsL_law_r10_of _ (List.mem_of_getElem? (i := 8) rfl)) (fm (wsL_law_r10_of _ (List.mem_of_getElem? (i := 9) rfl)) (fm (wsL_law_r10_of _ (List.mem_of_getElem? (i := 10) rfl)) (fm (wsL_law_r10_of _ (List.mem_of_getElem? (i := 11) rfl)) (fm (wsL_law_r10_of _ (List.mem_of_getElem? (i := 12) rfl)) (fm (wsL_law_r10_of _ (List.mem_of_getElem? (i := 13) rfl)) (fm (wsL_law_r10_of _ (List.mem_of_getElem? (i := 14) rfl)) (fm (wsL_law_r10_of _ (List.mem_of_getElem? (i := 15) rfl)) (fm (wsL_law_r10_of _ (List.mem_of_getElem? (i := 16) rfl)) (fm (wsL_law_r10_of _ (List.mem_of_getElem? (i := 17) rfl)) (fm (wsL_law_r10_of _ (List.mem_of_getElem? (i := 18) rfl)) (fm0))))))))))))))))))))))))) (by decide +kernel)
set_option maxRecDepth 20000 in
theorem gi_L_law_L_isSo_7 : GoodIn wsL_law wsL_isSo_r8 := gi_l (by
  unfold wsL_isSo_r8
  exact fm (wsL_law_r10_of _ (List.mem_of_getElem? (i := 19) rfl)) (fm (wsL_law_r10_of _ (List.mem_of_getElem? (i := 20) rfl)) (fm (wsL_law_r10_of _ (List.mem_of_getElem? (i := 21) rfl)) (fm (wsL_law_r10_of _ (List.mem_of_getElem? (i := 22) rfl)) (fm (wsL_law_r10_of _ (List.mem_of_getElem? (i := 23) rfl)) (fm (wsL_law_r11_of _ (List.mem_of_getElem? (i := 0) rfl)) (fm (wsL_law_r11_of _ (List.mem_of_getElem? (i := 1) rfl)) (fm (wsL_law_r11_of _ (List.mem_of_getElem? (i := 2) rfl)) (fm (wsL_law_r11_of _ (List.mem_of_getElem? (i := 3) rfl)) (fm (wsL_law_r11_of _ (List.mem_of_getElem? (i := 4) rfl)) (fm (wsL_law_r11_of _ (List.mem_of_getElem? (i := 5) rfl)) (fm (wsL_law_r11_of _ (List.mem_of_getElem? (i := 6) rfl)) (fm (wsL_law_r11_of _ (List.mem_of_getElem? (i := 7) rfl)) (fm (wsL_law_r11_of _ (List.mem_of_getElem? (i := 8) rfl)) (fm (wsL_law_r11_of _ (List.mem_of_getElem? (i := 9) rfl)) (fm (wsL_law_r11_of _ (List.mem_of_getElem? (i := 10) rfl)) (fm (wsL_law_r11_of _ (List.mem_of_getElem? (i := 11) rfl)) (fm (wsL_law_r11_of _ (List.mem_of_getElem? (i := 12) rfl)) (fm (wsL_law_r11_of _ (List.mem_of_getElem? (i := 13) rfl)) (fm (wsL_law_r11_of _ (List.mem_of_getElem? (i := 14) rfl)) (fm (wsL_law_r1_of _ (List.mem_of_getElem? (i := 21) rfl)) (fm (wsL_law_r11_of _ (List.mem_of_getElem? (i := 15) rfl)) (fm (wsL_law_r2_of _ (List.mem_of_getElem? (i := 1) rfl)) (fm (wsL_law_r11_of _ (List.mem_of_getElem? (i := 16) rfl)) (fm0))))))))))))))))))))))))) (by decide +kernel)
set_option maxRecDepth 20000 in
theorem gi_L_law_L_isSo_8 : GoodIn wsL_law wsL_isSo_r9 := gi_l (by
  unfold wsL_isSo_r9
  exact fm (wsL_law_r11_of _ (List.mem_of_getElem? (i := 17) rfl)) (fm (wsL_law_r11_of _ (List.mem_of_getElem? (i := 18) rfl)) (fm (wsL_law_r11_of _ (List.mem_of_getElem? (i := 19) rfl)) (fm (wsL_law_r11_of _ (List.mem_of_getElem? (i := 20) rfl)) (fm (wsL_law_r11_of _ (List.mem_of_getElem? (i := 21) rfl)) (fm (wsL_law_r11_of _ (List.mem_of_getElem? (i := 22) rfl)) (fm (wsL_law_r11_of _ (List.mem_of_getElem? (i := 23) rfl)) (fm (wsL_law_r12_of _ (List.mem_of_getElem? (i := 0) rfl)) (fm (wsL_law_r12_of _ (List.mem_of_getElem? (i := 1) rfl)) (fm (wsL_law_r12_of _ (List.mem_of_getElem? (i := 2) rfl)) (fm (wsL_law_r12_of _ (List.mem_of_getElem? (i := 3) rfl)) (fm (wsL_law_r12_of _ (List.mem_of_getElem? (i := 4) rfl)) (fm (wsL_law_r12_of _ (List.mem_of_getElem? (i := 5) rfl)) (fm (wsL_law_r12_of _ (List.mem_of_getElem? (i := 6) rfl)) (fm (wsL_law_r12_of _ (List.mem_of_getElem? (i := 7) rfl)) (fm (wsL_law_r12_of _ (List.mem_of_getElem? (i := 8) rfl)) (fm (wsL_law_r12_of _ (List.mem_of_getElem? (i := 9) rfl)) (fm (wsL_law_r12_of _ (List.mem_of_getElem? (i := 10) rfl)) (fm (wsL_law_r12_of _ (List.mem_of_getElem? (i := 11) rfl)) (fm (wsL_law_r12_of _ (List.mem_of_getElem? (i := 12) rfl)) (fm (wsL_law_r12_of _ (List.mem_of_getElem? (i := 13) rfl)) (fm (wsL_law_r12_of _ (List.mem_of_getElem? (i := 14) rfl)) (fm (wsL_law_r12_of _ (List.mem_of_getElem? (i := 15) rfl)) (fm (wsL_law_r12_of _ (List.mem_of_getElem? (i := 16) rfl)) (fm0))))))))))))))))))))))))) (by decide +kernel)
set_option maxRecDepth 20000 in
theorem gi_L_law_L_isSo_9 : GoodIn wsL_law wsL_isSo_r10 := gi_l (by
  unfold wsL_isSo_r10
  exact fm (wsL_law_r12_of _ (List.mem_of_getElem? (i := 17) rfl)) (fm (wsL_law_r12_of _ (List.mem_of_getElem? (i := 18) rfl)) (fm (wsL_law_r12_of _ (List.mem_of_getElem? (i := 19) rfl)) (fm (wsL_law_r12_of _ (List.mem_of_getElem? (i := 20) rfl)) (fm (wsL_law_r12_of _ (List.mem_of_getElem? (i := 21) rfl)) (fm (wsL_law_r12_of _ (List.mem_of_getElem? (i := 22) rfl)) (fm0))))))) (by decide +kernel)
theorem ggL_law_L_isSo : GoodIn wsL_law wsL_isSo := gi_c (gi_l (fm (wsL_law_r4_of _ (List.mem_of_getElem? (i := 10) rfl)) fm0) (by decide +kernel)) (goodIn_app (goodIn_app (goodIn_app (goodIn_app (goodIn_app (goodIn_app (goodIn_app gi_L_law_L_isSo_0 (goodIn_app gi_L_law_L_isSo_1 (goodIn_app gi_L_law_L_isSo_2 (goodIn_app gi_L_law_L_isSo_3 (goodIn_app gi_L_law_L_isSo_4 (goodIn_app gi_L_law_L_isSo_5 (goodIn_app gi_L_law_L_isSo_6 (goodIn_app gi_L_law_L_isSo_7 (goodIn_app gi_L_law_L_isSo_8 (gi_L_law_L_isSo_9)))))))))) (gi_l wsL_law_wsX50 (by decide +kernel))) (gi_l wsL_law_wsX40 (by decide +kernel))) (gi_l wsL_law_wsX30 (by decide +kernel))) (gi_l wsL_law_wsX00 (by decide +kernel))) (gi_l wsL_law_wsX10 (by decide +kernel))) (gi_l wsL_law_wsX20 (by decide +kernel)))
theorem gL_law_L_isSo : GoodIn wsL_law (va_wsS RL 155 yL_isSo wsL_isSo) := goodIn_app (gi_l (fm (wsL_law_r4_of _ (List.mem_of_getElem? (i := 7) rfl)) (fm (wsL_law_r4_of _ (List.mem_of_getElem? (i := 8) rfl)) (fm (wsL_law_r4_of _ (List.mem_of_getElem? (i := 9) rfl)) (fm0)))) (by decide +kernel)) ggL_law_L_isSo
set_option maxRecDepth 20000 in
theorem gi_L_law_L_cell_0 : GoodIn wsL_law ([.constant RL 7 (40503)] : List Cond) := gi_l (by
  exact fm (wsL_law_r13_of _ (List.mem_of_getElem? (i := 2) rfl)) (fm0)) (by decide +kernel)
theorem ggL_law_L_cell : GoodIn wsL_law wsL_cell := gi_c (gi_l (fm (wsL_law_r13_of _ (List.mem_of_getElem? (i := 1) rfl)) fm0) (by decide +kernel)) (gi_L_law_L_cell_0)
theorem gL_law_L_cell : GoodIn wsL_law (va_wsS RL 158 yL_cell wsL_cell) := goodIn_app (gi_l (fm (wsL_law_r12_of _ (List.mem_of_getElem? (i := 23) rfl)) (fm (wsL_law_r13_of _ (List.mem_of_getElem? (i := 0) rfl)) (fm (wsL_law_r4_of _ (List.mem_of_getElem? (i := 9) rfl)) (fm0)))) (by decide +kernel)) ggL_law_L_cell
set_option maxRecDepth 20000 in
theorem gi_L_law_L_low_0 : GoodIn wsL_law ([.constant RL 8 (2147483647)] : List Cond) := gi_l (by
  exact fm (wsL_law_r13_of _ (List.mem_of_getElem? (i := 6) rfl)) (fm0)) (by decide +kernel)
theorem ggL_law_L_low : GoodIn wsL_law wsL_low := gi_c (gi_l (fm (wsL_law_r13_of _ (List.mem_of_getElem? (i := 5) rfl)) fm0) (by decide +kernel)) (gi_L_law_L_low_0)
theorem gL_law_L_low : GoodIn wsL_law (va_wsS RL 93 yL_low wsL_low) := goodIn_app (gi_l (fm (wsL_law_r13_of _ (List.mem_of_getElem? (i := 3) rfl)) (fm (wsL_law_r13_of _ (List.mem_of_getElem? (i := 4) rfl)) (fm (wsL_law_r4_of _ (List.mem_of_getElem? (i := 9) rfl)) (fm0)))) (by decide +kernel)) ggL_law_L_low
set_option maxRecDepth 20000 in
theorem gi_L_law_L_acts_0 : GoodIn wsL_law wsL_acts_r1 := gi_l (by
  unfold wsL_acts_r1
  exact fm (wsL_law_r13_of _ (List.mem_of_getElem? (i := 10) rfl)) (fm (wsL_law_r13_of _ (List.mem_of_getElem? (i := 11) rfl)) (fm (wsL_law_r13_of _ (List.mem_of_getElem? (i := 3) rfl)) (fm (wsL_law_r13_of _ (List.mem_of_getElem? (i := 4) rfl)) (fm (wsL_law_r4_of _ (List.mem_of_getElem? (i := 9) rfl)) (fm (wsL_law_r13_of _ (List.mem_of_getElem? (i := 5) rfl)) (fm (wsL_law_r13_of _ (List.mem_of_getElem? (i := 6) rfl)) (fm (wsL_law_r13_of _ (List.mem_of_getElem? (i := 12) rfl)) (fm (wsL_law_r13_of _ (List.mem_of_getElem? (i := 13) rfl)) (fm (wsL_law_r13_of _ (List.mem_of_getElem? (i := 14) rfl)) (fm (wsL_law_r1_of _ (List.mem_of_getElem? (i := 3) rfl)) (fm (wsL_law_r13_of _ (List.mem_of_getElem? (i := 15) rfl)) (fm (wsL_law_r8_of _ (List.mem_of_getElem? (i := 12) rfl)) (fm (wsL_law_r8_of _ (List.mem_of_getElem? (i := 13) rfl)) (fm (wsL_law_r8_of _ (List.mem_of_getElem? (i := 14) rfl)) (fm (wsL_law_r9_of _ (List.mem_of_getElem? (i := 4) rfl)) (fm (wsL_law_r9_of _ (List.mem_of_getElem? (i := 5) rfl)) (fm (wsL_law_r9_of _ (List.mem_of_getElem? (i := 6) rfl)) (fm (wsL_law_r8_of _ (List.mem_of_getElem? (i := 15) rfl)) (fm (wsL_law_r8_of _ (List.mem_of_getElem? (i := 16) rfl)) (fm (wsL_law_r8_of _ (List.mem_of_getElem? (i := 17) rfl)) (fm (wsL_law_r8_of _ (List.mem_of_getElem? (i := 18) rfl)) (fm (wsL_law_r9_of _ (List.mem_of_getElem? (i := 7) rfl)) (fm (wsL_law_r9_of _ (List.mem_of_getElem? (i := 8) rfl)) (fm0))))))))))))))))))))))))) (by decide +kernel)
set_option maxRecDepth 20000 in
theorem gi_L_law_L_acts_1 : GoodIn wsL_law wsL_acts_r2 := gi_l (by
  unfold wsL_acts_r2
  exact fm (wsL_law_r9_of _ (List.mem_of_getElem? (i := 9) rfl)) (fm (wsL_law_r9_of _ (List.mem_of_getElem? (i := 10) rfl)) (fm (wsL_law_r13_of _ (List.mem_of_getElem? (i := 16) rfl)) (fm (wsL_law_r13_of _ (List.mem_of_getElem? (i := 17) rfl)) (fm (wsL_law_r13_of _ (List.mem_of_getElem? (i := 18) rfl)) (fm (wsL_law_r13_of _ (List.mem_of_getElem? (i := 19) rfl)) (fm (wsL_law_r11_of _ (List.mem_of_getElem? (i := 3) rfl)) (fm (wsL_law_r11_of _ (List.mem_of_getElem? (i := 4) rfl)) (fm (wsL_law_r11_of _ (List.mem_of_getElem? (i := 5) rfl)) (fm (wsL_law_r13_of _ (List.mem_of_getElem? (i := 20) rfl)) (fm (wsL_law_r13_of _ (List.mem_of_getElem? (i := 21) rfl)) (fm (wsL_law_r13_of _ (List.mem_of_getElem? (i := 22) rfl)) (fm (wsL_law_r1_of _ (List.mem_of_getElem? (i := 5) rfl)) (fm (wsL_law_r8_of _ (List.mem_of_getElem? (i := 19) rfl)) (fm (wsL_law_r8_of _ (List.mem_of_getElem? (i := 20) rfl)) (fm (wsL_law_r8_of _ (List.mem_of_getElem? (i := 21) rfl)) (fm (wsL_law_r13_of _ (List.mem_of_getElem? (i := 23) rfl)) (fm (wsL_law_r14_of _ (List.mem_of_getElem? (i := 0) rfl)) (fm (wsL_law_r14_of _ (List.mem_of_getElem? (i := 1) rfl)) (fm (wsL_law_r1_of _ (List.mem_of_getElem? (i := 2) rfl)) (fm (wsL_law_r14_of _ (List.mem_of_getElem? (i := 2) rfl)) (fm (wsL_law_r14_of _ (List.mem_of_getElem? (i := 3) rfl)) (fm (wsL_law_r14_of _ (List.mem_of_getElem? (i := 4) rfl)) (fm (wsL_law_r14_of _ (List.mem_of_getElem? (i := 5) rfl)) (fm0))))))))))))))))))))))))) (by decide +kernel)
set_option maxRecDepth 20000 in
theorem gi_L_law_L_acts_2 : GoodIn wsL_law wsL_acts_r3 := gi_l (by
  unfold wsL_acts_r3
  exact fm (wsL_law_r14_of _ (List.mem_of_getElem? (i := 6) rfl)) (fm (wsL_law_r1_of _ (List.mem_of_getElem? (i := 17) rfl)) (fm (wsL_law_r1_of _ (List.mem_of_getElem? (i := 16) rfl)) (fm (wsL_law_r14_of _ (List.mem_of_getElem? (i := 7) rfl)) (fm (wsL_law_r14_of _ (List.mem_of_getElem? (i := 8) rfl)) (fm (wsL_law_r14_of _ (List.mem_of_getElem? (i := 9) rfl)) (fm (wsL_law_r1_of _ (List.mem_of_getElem? (i := 15) rfl)) (fm (wsL_law_r14_of _ (List.mem_of_getElem? (i := 10) rfl)) (fm (wsL_law_r2_of _ (List.mem_of_getElem? (i := 9) rfl)) (fm (wsL_law_r2_of _ (List.mem_of_getElem? (i := 13) rfl)) (fm (wsL_law_r2_of _ (List.mem_of_getElem? (i := 14) rfl)) (fm (wsL_law_r14_of _ (List.mem_of_getElem? (i := 11) rfl)) (fm (wsL_law_r14_of _ (List.mem_of_getElem? (i := 12) rfl)) (fm (wsL_law_r14_of _ (List.mem_of_getElem? (i := 13) rfl)) (fm (wsL_law_r14_of _ (List.mem_of_getElem? (i := 14) rfl)) (fm (wsL_law_r2_of _ (List.mem_of_getElem? (i := 16) rfl)) (fm (wsL_law_r2_of _ (List.mem_of_getElem? (i := 17) rfl)) (fm (wsL_law_r14_of _ (List.mem_of_getElem? (i := 15) rfl)) (fm (wsL_law_r14_of _ (List.mem_of_getElem? (i := 16) rfl)) (fm (wsL_law_r14_of _ (List.mem_of_getElem? (i := 17) rfl)) (fm (wsL_law_r2_of _ (List.mem_of_getElem? (i := 8) rfl)) (fm (wsL_law_r14_of _ (List.mem_of_getElem? (i := 18) rfl)) (fm (wsL_law_r2_of _ (List.mem_of_getElem? (i := 22) rfl)) (fm (wsL_law_r14_of _ (List.mem_of_getElem? (i := 19) rfl)) (fm0))))))))))))))))))))))))) (by decide +kernel)
set_option maxRecDepth 20000 in
theorem gi_L_law_L_acts_3 : GoodIn wsL_law wsL_acts_r4 := gi_l (by
  unfold wsL_acts_r4
  exact fm (wsL_law_r2_of _ (List.mem_of_getElem? (i := 23) rfl)) (fm (wsL_law_r3_of _ (List.mem_of_getElem? (i := 0) rfl)) (fm (wsL_law_r3_of _ (List.mem_of_getElem? (i := 1) rfl)) (fm (wsL_law_r14_of _ (List.mem_of_getElem? (i := 20) rfl)) (fm (wsL_law_r14_of _ (List.mem_of_getElem? (i := 21) rfl)) (fm (wsL_law_r14_of _ (List.mem_of_getElem? (i := 22) rfl)) (fm (wsL_law_r2_of _ (List.mem_of_getElem? (i := 12) rfl)) (fm (wsL_law_r14_of _ (List.mem_of_getElem? (i := 23) rfl)) (fm (wsL_law_r3_of _ (List.mem_of_getElem? (i := 6) rfl)) (fm (wsL_law_r15_of _ (List.mem_of_getElem? (i := 0) rfl)) (fm (wsL_law_r3_of _ (List.mem_of_getElem? (i := 7) rfl)) (fm (wsL_law_r3_of _ (List.mem_of_getElem? (i := 8) rfl)) (fm (wsL_law_r3_of _ (List.mem_of_getElem? (i := 9) rfl)) (fm (wsL_law_r3_of _ (List.mem_of_getElem? (i := 10) rfl)) (fm (wsL_law_r15_of _ (List.mem_of_getElem? (i := 1) rfl)) (fm (wsL_law_r15_of _ (List.mem_of_getElem? (i := 2) rfl)) (fm (wsL_law_r15_of _ (List.mem_of_getElem? (i := 3) rfl)) (fm (wsL_law_r15_of _ (List.mem_of_getElem? (i := 4) rfl)) (fm (wsL_law_r15_of _ (List.mem_of_getElem? (i := 5) rfl)) (fm (wsL_law_r2_of _ (List.mem_of_getElem? (i := 15) rfl)) (fm (wsL_law_r15_of _ (List.mem_of_getElem? (i := 6) rfl)) (fm (wsL_law_r15_of _ (List.mem_of_getElem? (i := 7) rfl)) (fm (wsL_law_r15_of _ (List.mem_of_getElem? (i := 8) rfl)) (fm (wsL_law_r15_of _ (List.mem_of_getElem? (i := 9) rfl)) (fm0))))))))))))))))))))))))) (by decide +kernel)
set_option maxRecDepth 20000 in
theorem gi_L_law_L_acts_4 : GoodIn wsL_law wsL_acts_r5 := gi_l (by
  unfold wsL_acts_r5
  exact fm (wsL_law_r15_of _ (List.mem_of_getElem? (i := 10) rfl)) (fm (wsL_law_r12_of _ (List.mem_of_getElem? (i := 20) rfl)) (fm (wsL_law_r12_of _ (List.mem_of_getElem? (i := 21) rfl)) (fm (wsL_law_r12_of _ (List.mem_of_getElem? (i := 22) rfl)) (fm (wsL_law_r7_of _ (List.mem_of_getElem? (i := 18) rfl)) (fm (wsL_law_r7_of _ (List.mem_of_getElem? (i := 19) rfl)) (fm (wsL_law_r15_of _ (List.mem_of_getElem? (i := 11) rfl)) (fm (wsL_law_r5_of _ (List.mem_of_getElem? (i := 10) rfl)) (fm (wsL_law_r5_of _ (List.mem_of_getElem? (i := 11) rfl)) (fm (wsL_law_r5_of _ (List.mem_of_getElem? (i := 12) rfl)) (fm (wsL_law_r15_of _ (List.mem_of_getElem? (i := 12) rfl)) (fm (wsL_law_r15_of _ (List.mem_of_getElem? (i := 13) rfl)) (fm (wsL_law_r9_of _ (List.mem_of_getElem? (i := 2) rfl)) (fm (wsL_law_r15_of _ (List.mem_of_getElem? (i := 14) rfl)) (fm (wsL_law_r15_of _ (List.mem_of_getElem? (i := 15) rfl)) (fm (wsL_law_r15_of _ (List.mem_of_getElem? (i := 16) rfl)) (fm (wsL_law_r15_of _ (List.mem_of_getElem? (i := 17) rfl)) (fm (wsL_law_r15_of _ (List.mem_of_getElem? (i := 18) rfl)) (fm (wsL_law_r9_of _ (List.mem_of_getElem? (i := 16) rfl)) (fm (wsL_law_r9_of _ (List.mem_of_getElem? (i := 17) rfl)) (fm (wsL_law_r9_of _ (List.mem_of_getElem? (i := 18) rfl)) (fm (wsL_law_r6_of _ (List.mem_of_getElem? (i := 12) rfl)) (fm (wsL_law_r6_of _ (List.mem_of_getElem? (i := 13) rfl)) (fm (wsL_law_r6_of _ (List.mem_of_getElem? (i := 14) rfl)) (fm0))))))))))))))))))))))))) (by decide +kernel)
set_option maxRecDepth 20000 in
theorem gi_L_law_L_acts_5 : GoodIn wsL_law wsL_acts_r6 := gi_l (by
  unfold wsL_acts_r6
  exact fm (wsL_law_r6_of _ (List.mem_of_getElem? (i := 15) rfl)) (fm (wsL_law_r9_of _ (List.mem_of_getElem? (i := 19) rfl)) (fm (wsL_law_r6_of _ (List.mem_of_getElem? (i := 21) rfl)) (fm (wsL_law_r6_of _ (List.mem_of_getElem? (i := 22) rfl)) (fm (wsL_law_r6_of _ (List.mem_of_getElem? (i := 23) rfl)) (fm (wsL_law_r15_of _ (List.mem_of_getElem? (i := 19) rfl)) (fm (wsL_law_r15_of _ (List.mem_of_getElem? (i := 20) rfl)) (fm (wsL_law_r15_of _ (List.mem_of_getElem? (i := 21) rfl)) (fm (wsL_law_r15_of _ (List.mem_of_getElem? (i := 22) rfl)) (fm (wsL_law_r15_of _ (List.mem_of_getElem? (i := 23) rfl)) (fm (wsL_law_r16_of _ (List.mem_of_getElem? (i := 0) rfl)) (fm (wsL_law_r16_of _ (List.mem_of_getElem? (i := 1) rfl)) (fm (wsL_law_r16_of _ (List.mem_of_getElem? (i := 2) rfl)) (fm (wsL_law_r16_of _ (List.mem_of_getElem? (i := 3) rfl)) (fm (wsL_law_r11_of _ (List.mem_of_getElem? (i := 0) rfl)) (fm (wsL_law_r11_of _ (List.mem_of_getElem? (i := 1) rfl)) (fm (wsL_law_r11_of _ (List.mem_of_getElem? (i := 2) rfl)) (fm (wsL_law_r16_of _ (List.mem_of_getElem? (i := 4) rfl)) (fm (wsL_law_r12_of _ (List.mem_of_getElem? (i := 8) rfl)) (fm (wsL_law_r12_of _ (List.mem_of_getElem? (i := 9) rfl)) (fm (wsL_law_r12_of _ (List.mem_of_getElem? (i := 10) rfl)) (fm (wsL_law_r10_of _ (List.mem_of_getElem? (i := 23) rfl)) (fm (wsL_law_r16_of _ (List.mem_of_getElem? (i := 5) rfl)) (fm (wsL_law_r16_of _ (List.mem_of_getElem? (i := 6) rfl)) (fm0))))))))))))))))))))))))) (by decide +kernel)
set_option maxRecDepth 20000 in
theorem gi_L_law_L_acts_6 : GoodIn wsL_law wsL_acts_r7 := gi_l (by
  unfold wsL_acts_r7
  exact fm (wsL_law_r16_of _ (List.mem_of_getElem? (i := 7) rfl)) (fm (wsL_law_r16_of _ (List.mem_of_getElem? (i := 8) rfl)) (fm (wsL_law_r16_of _ (List.mem_of_getElem? (i := 9) rfl)) (fm (wsL_law_r16_of _ (List.mem_of_getElem? (i := 10) rfl)) (fm (wsL_law_r16_of _ (List.mem_of_getElem? (i := 11) rfl)) (fm (wsL_law_r16_of _ (List.mem_of_getElem? (i := 12) rfl)) (fm (wsL_law_r16_of _ (List.mem_of_getElem? (i := 13) rfl)) (fm (wsL_law_r4_of _ (List.mem_of_getElem? (i := 22) rfl)) (fm (wsL_law_r4_of _ (List.mem_of_getElem? (i := 23) rfl)) (fm (wsL_law_r5_of _ (List.mem_of_getElem? (i := 0) rfl)) (fm (wsL_law_r16_of _ (List.mem_of_getElem? (i := 14) rfl)) (fm (wsL_law_r16_of _ (List.mem_of_getElem? (i := 15) rfl)) (fm (wsL_law_r16_of _ (List.mem_of_getElem? (i := 16) rfl)) (fm (wsL_law_r16_of _ (List.mem_of_getElem? (i := 17) rfl)) (fm (wsL_law_r16_of _ (List.mem_of_getElem? (i := 18) rfl)) (fm (wsL_law_r16_of _ (List.mem_of_getElem? (i := 19) rfl)) (fm (wsL_law_r16_of _ (List.mem_of_getElem? (i := 20) rfl)) (fm (wsL_law_r16_of _ (List.mem_of_getElem? (i := 21) rfl)) (fm (wsL_law_r1_of _ (List.mem_of_getElem? (i := 21) rfl)) (fm (wsL_law_r16_of _ (List.mem_of_getElem? (i := 22) rfl)) (fm (wsL_law_r16_of _ (List.mem_of_getElem? (i := 23) rfl)) (fm (wsL_law_r17_of _ (List.mem_of_getElem? (i := 0) rfl)) (fm (wsL_law_r1_of _ (List.mem_of_getElem? (i := 20) rfl)) (fm (wsL_law_r17_of _ (List.mem_of_getElem? (i := 1) rfl)) (fm0))))))))))))))))))))))))) (by decide +kernel)
set_option maxRecDepth 20000 in
theorem gi_L_law_L_acts_7 : GoodIn wsL_law wsL_acts_r8 := gi_l (by
  unfold wsL_acts_r8
  exact fm (wsL_law_r3_of _ (List.mem_of_getElem? (i := 17) rfl)) (fm (wsL_law_r3_of _ (List.mem_of_getElem? (i := 18) rfl)) (fm (wsL_law_r3_of _ (List.mem_of_getElem? (i := 16) rfl)) (fm (wsL_law_r17_of _ (List.mem_of_getElem? (i := 2) rfl)) (fm (wsL_law_r17_of _ (List.mem_of_getElem? (i := 3) rfl)) (fm (wsL_law_r17_of _ (List.mem_of_getElem? (i := 4) rfl)) (fm (wsL_law_r17_of _ (List.mem_of_getElem? (i := 5) rfl)) (fm (wsL_law_r17_of _ (List.mem_of_getElem? (i := 6) rfl)) (fm (wsL_law_r17_of _ (List.mem_of_getElem? (i := 7) rfl)) (fm (wsL_law_r17_of _ (List.mem_of_getElem? (i := 8) rfl)) (fm (wsL_law_r17_of _ (List.mem_of_getElem? (i := 9) rfl)) (fm (wsL_law_r17_of _ (List.mem_of_getElem? (i := 10) rfl)) (fm (wsL_law_r17_of _ (List.mem_of_getElem? (i := 11) rfl)) (fm (wsL_law_r17_of _ (List.mem_of_getElem? (i := 12) rfl)) (fm (wsL_law_r17_of _ (List.mem_of_getElem? (i := 13) rfl)) (fm (wsL_law_r17_of _ (List.mem_of_getElem? (i := 14) rfl)) (fm (wsL_law_r17_of _ (List.mem_of_getElem? (i := 15) rfl)) (fm (wsL_law_r17_of _ (List.mem_of_getElem? (i := 16) rfl)) (fm (wsL_law_r17_of _ (List.mem_of_getElem? (i := 17) rfl)) (fm (wsL_law_r17_of _ (List.mem_of_getElem? (i := 18) rfl)) (fm (wsL_law_r17_of _ (List.mem_of_getElem? (i := 19) rfl)) (fm (wsL_law_r17_of _ (List.mem_of_getElem? (i := 20) rfl)) (fm (wsL_law_r17_of _ (List.mem_of_getElem? (i := 21) rfl)) (fm (wsL_law_r17_of _ (List.mem_of_getElem? (i := 22) rfl)) (fm0))))))))))))))))))))))))) (by decide +kernel)
set_option maxRecDepth 20000 in
theorem gi_L_law_L_acts_8 : GoodIn wsL_law wsL_acts_r9 := gi_l (by
  unfold wsL_acts_r9
  exact fm (wsL_law_r17_of _ (List.mem_of_getElem? (i := 23) rfl)) (fm (wsL_law_r18_of _ (List.mem_of_getElem? (i := 0) rfl)) (fm (wsL_law_r18_of _ (List.mem_of_getElem? (i := 1) rfl)) (fm (wsL_law_r18_of _ (List.mem_of_getElem? (i := 2) rfl)) (fm (wsL_law_r18_of _ (List.mem_of_getElem? (i := 3) rfl)) (fm (wsL_law_r18_of _ (List.mem_of_getElem? (i := 4) rfl)) (fm (wsL_law_r18_of _ (List.mem_of_getElem? (i := 5) rfl)) (fm (wsL_law_r18_of _ (List.mem_of_getElem? (i := 6) rfl)) (fm (wsL_law_r18_of _ (List.mem_of_getElem? (i := 7) rfl)) (fm (wsL_law_r6_of _ (List.mem_of_getElem? (i := 2) rfl)) (fm (wsL_law_r6_of _ (List.mem_of_getElem? (i := 3) rfl)) (fm (wsL_law_r6_of _ (List.mem_of_getElem? (i := 4) rfl)) (fm (wsL_law_r6_of _ (List.mem_of_getElem? (i := 5) rfl)) (fm (wsL_law_r6_of _ (List.mem_of_getElem? (i := 6) rfl)) (fm (wsL_law_r5_of _ (List.mem_of_getElem? (i := 14) rfl)) (fm (wsL_law_r5_of _ (List.mem_of_getElem? (i := 15) rfl)) (fm (wsL_law_r5_of _ (List.mem_of_getElem? (i := 16) rfl)) (fm (wsL_law_r6_of _ (List.mem_of_getElem? (i := 7) rfl)) (fm (wsL_law_r18_of _ (List.mem_of_getElem? (i := 8) rfl)) (fm (wsL_law_r18_of _ (List.mem_of_getElem? (i := 9) rfl)) (fm (wsL_law_r18_of _ (List.mem_of_getElem? (i := 10) rfl)) (fm (wsL_law_r18_of _ (List.mem_of_getElem? (i := 11) rfl)) (fm (wsL_law_r18_of _ (List.mem_of_getElem? (i := 12) rfl)) (fm (wsL_law_r18_of _ (List.mem_of_getElem? (i := 13) rfl)) (fm0))))))))))))))))))))))))) (by decide +kernel)
set_option maxRecDepth 20000 in
theorem gi_L_law_L_acts_9 : GoodIn wsL_law wsL_acts_r10 := gi_l (by
  unfold wsL_acts_r10
  exact fm (wsL_law_r18_of _ (List.mem_of_getElem? (i := 14) rfl)) (fm (wsL_law_r1_of _ (List.mem_of_getElem? (i := 6) rfl)) (fm (wsL_law_r18_of _ (List.mem_of_getElem? (i := 15) rfl)) (fm (wsL_law_r18_of _ (List.mem_of_getElem? (i := 16) rfl)) (fm (wsL_law_r18_of _ (List.mem_of_getElem? (i := 17) rfl)) (fm (wsL_law_r18_of _ (List.mem_of_getElem? (i := 18) rfl)) (fm (wsL_law_r18_of _ (List.mem_of_getElem? (i := 19) rfl)) (fm (wsL_law_r18_of _ (List.mem_of_getElem? (i := 20) rfl)) (fm (wsL_law_r18_of _ (List.mem_of_getElem? (i := 21) rfl)) (fm (wsL_law_r18_of _ (List.mem_of_getElem? (i := 22) rfl)) (fm (wsL_law_r18_of _ (List.mem_of_getElem? (i := 23) rfl)) (fm (wsL_law_r19_of _ (List.mem_of_getElem? (i := 0) rfl)) (fm (wsL_law_r19_of _ (List.mem_of_getElem? (i := 1) rfl)) (fm (wsL_law_r19_of _ (List.mem_of_getElem? (i := 2) rfl)) (fm (wsL_law_r19_of _ (List.mem_of_getElem? (i := 3) rfl)) (fm (wsL_law_r19_of _ (List.mem_of_getElem? (i := 4) rfl)) (fm (wsL_law_r19_of _ (List.mem_of_getElem? (i := 5) rfl)) (fm (wsL_law_r19_of _ (List.mem_of_getElem? (i := 6) rfl)) (fm (wsL_law_r19_of _ (List.mem_of_getElem? (i := 7) rfl)) (fm (wsL_law_r19_of _ (List.mem_of_getElem? (i := 8) rfl)) (fm (wsL_law_r11_of _ (List.mem_of_getElem? (i := 19) rfl)) (fm (wsL_law_r11_of _ (List.mem_of_getElem? (i := 20) rfl)) (fm (wsL_law_r11_of _ (List.mem_of_getElem? (i := 21) rfl)) (fm (wsL_law_r19_of _ (List.mem_of_getElem? (i := 9) rfl)) (fm0))))))))))))))))))))))))) (by decide +kernel)
set_option maxRecDepth 20000 in
theorem gi_L_law_L_acts_10 : GoodIn wsL_law wsL_acts_r11 := gi_l (by
  unfold wsL_acts_r11
  exact fm (wsL_law_r19_of _ (List.mem_of_getElem? (i := 10) rfl)) (fm (wsL_law_r19_of _ (List.mem_of_getElem? (i := 11) rfl)) (fm (wsL_law_r19_of _ (List.mem_of_getElem? (i := 12) rfl)) (fm (wsL_law_r19_of _ (List.mem_of_getElem? (i := 13) rfl)) (fm (wsL_law_r19_of _ (List.mem_of_getElem? (i := 14) rfl)) (fm (wsL_law_r19_of _ (List.mem_of_getElem? (i := 15) rfl)) (fm (wsL_law_r19_of _ (List.mem_of_getElem? (i := 16) rfl)) (fm (wsL_law_r19_of _ (List.mem_of_getElem? (i := 17) rfl)) (fm (wsL_law_r12_of _ (List.mem_of_getElem? (i := 14) rfl)) (fm (wsL_law_r12_of _ (List.mem_of_getElem? (i := 15) rfl)) (fm (wsL_law_r12_of _ (List.mem_of_getElem? (i := 16) rfl)) (fm (wsL_law_r12_of _ (List.mem_of_getElem? (i := 17) rfl)) (fm (wsL_law_r12_of _ (List.mem_of_getElem? (i := 18) rfl)) (fm (wsL_law_r4_of _ (List.mem_of_getElem? (i := 19) rfl)) (fm (wsL_law_r12_of _ (List.mem_of_getElem? (i := 19) rfl)) (fm (wsL_law_r19_of _ (List.mem_of_getElem? (i := 18) rfl)) (fm (wsL_law_r19_of _ (List.mem_of_getElem? (i := 19) rfl)) (fm (wsL_law_r19_of _ (List.mem_of_getElem? (i := 20) rfl)) (fm (wsL_law_r19_of _ (List.mem_of_getElem? (i := 21) rfl)) (fm (wsL_law_r19_of _ (List.mem_of_getElem? (i := 22) rfl)) (fm (wsL_law_r19_of _ (List.mem_of_getElem? (i := 23) rfl)) (fm (wsL_law_r20_of _ (List.mem_of_getElem? (i := 0) rfl)) (fm (wsL_law_r20_of _ (List.mem_of_getElem? (i := 1) rfl)) (fm (wsL_law_r20_of _ (List.mem_of_getElem? (i := 2) rfl)) (fm0))))))))))))))))))))))))) (by decide +kernel)
set_option maxRecDepth 20000 in
theorem gi_L_law_L_acts_11 : GoodIn wsL_law wsL_acts_r12 := gi_l (by
  unfold wsL_acts_r12
  exact fm (wsL_law_r20_of _ (List.mem_of_getElem? (i := 3) rfl)) (fm (wsL_law_r20_of _ (List.mem_of_getElem? (i := 4) rfl)) (fm (wsL_law_r20_of _ (List.mem_of_getElem? (i := 5) rfl)) (fm (wsL_law_r20_of _ (List.mem_of_getElem? (i := 6) rfl)) (fm (wsL_law_r20_of _ (List.mem_of_getElem? (i := 7) rfl)) (fm (wsL_law_r20_of _ (List.mem_of_getElem? (i := 8) rfl)) (fm (wsL_law_r20_of _ (List.mem_of_getElem? (i := 9) rfl)) (fm (wsL_law_r8_of _ (List.mem_of_getElem? (i := 9) rfl)) (fm (wsL_law_r8_of _ (List.mem_of_getElem? (i := 10) rfl)) (fm (wsL_law_r8_of _ (List.mem_of_getElem? (i := 11) rfl)) (fm (wsL_law_r20_of _ (List.mem_of_getElem? (i := 10) rfl)) (fm (wsL_law_r11_of _ (List.mem_of_getElem? (i := 23) rfl)) (fm (wsL_law_r12_of _ (List.mem_of_getElem? (i := 0) rfl)) (fm (wsL_law_r12_of _ (List.mem_of_getElem? (i := 1) rfl)) (fm (wsL_law_r12_of _ (List.mem_of_getElem? (i := 2) rfl)) (fm (wsL_law_r10_of _ (List.mem_of_getElem? (i := 5) rfl)) (fm (wsL_law_r10_of _ (List.mem_of_getElem? (i := 6) rfl)) (fm (wsL_law_r10_of _ (List.mem_of_getElem? (i := 7) rfl)) (fm (wsL_law_r20_of _ (List.mem_of_getElem? (i := 11) rfl)) (fm (wsL_law_r20_of _ (List.mem_of_getElem? (i := 12) rfl)) (fm (wsL_law_r20_of _ (List.mem_of_getElem? (i := 13) rfl)) (fm (wsL_law_r20_of _ (List.mem_of_getElem? (i := 14) rfl)) (fm (wsL_law_r20_of _ (List.mem_of_getElem? (i := 15) rfl)) (fm (wsL_law_r20_of _ (List.mem_of_getElem? (i := 16) rfl)) (fm0))))))))))))))))))))))))) (by decide +kernel)
set_option maxRecDepth 20000 in
theorem gi_L_law_L_acts_12 : GoodIn wsL_law wsL_acts_r13 := gi_l (by
  unfold wsL_acts_r13
  exact fm (wsL_law_r20_of _ (List.mem_of_getElem? (i := 17) rfl)) (fm (wsL_law_r20_of _ (List.mem_of_getElem? (i := 18) rfl)) (fm (wsL_law_r20_of _ (List.mem_of_getElem? (i := 19) rfl)) (fm (wsL_law_r20_of _ (List.mem_of_getElem? (i := 20) rfl)) (fm (wsL_law_r20_of _ (List.mem_of_getElem? (i := 21) rfl)) (fm (wsL_law_r20_of _ (List.mem_of_getElem? (i := 22) rfl)) (fm (wsL_law_r20_of _ (List.mem_of_getElem? (i := 23) rfl)) (fm (wsL_law_r21_of _ (List.mem_of_getElem? (i := 0) rfl)) (fm (wsL_law_r21_of _ (List.mem_of_getElem? (i := 1) rfl)) (fm (wsL_law_r21_of _ (List.mem_of_getElem? (i := 2) rfl)) (fm (wsL_law_r21_of _ (List.mem_of_getElem? (i := 3) rfl)) (fm (wsL_law_r21_of _ (List.mem_of_getElem? (i := 4) rfl)) (fm (wsL_law_r21_of _ (List.mem_of_getElem? (i := 5) rfl)) (fm (wsL_law_r21_of _ (List.mem_of_getElem? (i := 6) rfl)) (fm (wsL_law_r21_of _ (List.mem_of_getElem? (i := 7) rfl)) (fm (wsL_law_r21_of _ (List.mem_of_getElem? (i := 8) rfl)) (fm (wsL_law_r21_of _ (List.mem_of_getElem? (i := 9) rfl)) (fm (wsL_law_r21_of _ (List.mem_of_getElem? (i := 10) rfl)) (fm (wsL_law_r21_of _ (List.mem_of_getElem? (i := 11) rfl)) (fm (wsL_law_r21_of _ (List.mem_of_getElem? (i := 12) rfl)) (fm (wsL_law_r21_of _ (List.mem_of_getElem? (i := 13) rfl)) (fm0)))))))))))))))))))))) (by decide +kernel)
theorem ggL_law_L_acts : GoodIn wsL_law wsL_acts := gi_c (gi_l (fm (wsL_law_r13_of _ (List.mem_of_getElem? (i := 9) rfl)) fm0) (by decide +kernel)) (goodIn_app (goodIn_app (goodIn_app (goodIn_app (goodIn_app (goodIn_app gi_L_law_L_acts_0 (goodIn_app gi_L_law_L_acts_1 (goodIn_app gi_L_law_L_acts_2 (goodIn_app gi_L_law_L_acts_3 (goodIn_app gi_L_law_L_acts_4 (goodIn_app gi_L_law_L_acts_5 (goodIn_app gi_L_law_L_acts_6 (goodIn_app gi_L_law_L_acts_7 (goodIn_app gi_L_law_L_acts_8 (goodIn_app gi_L_law_L_acts_9 (goodIn_app gi_L_law_L_acts_10 (goodIn_app gi_L_law_L_acts_11 (gi_L_law_L_acts_12))))))))))))) (gi_l wsL_law_wsX50 (by decide +kernel))) (gi_l wsL_law_wsX40 (by decide +kernel))) (gi_l wsL_law_wsX00 (by decide +kernel))) (gi_l wsL_law_wsX30 (by decide +kernel))) (gi_l wsL_law_wsX10 (by decide +kernel)))
theorem gL_law_L_acts : GoodIn wsL_law (va_wsS RL 162 yL_acts wsL_acts) := goodIn_app (gi_l (fm (wsL_law_r13_of _ (List.mem_of_getElem? (i := 7) rfl)) (fm (wsL_law_r13_of _ (List.mem_of_getElem? (i := 8) rfl)) (fm (wsL_law_r4_of _ (List.mem_of_getElem? (i := 9) rfl)) (fm0)))) (by decide +kernel)) ggL_law_L_acts
set_option maxRecDepth 20000 in
theorem gi_L_law_X5_count_0 : GoodIn wsL_law wsX5_count_r1 := gi_l (by
  unfold wsX5_count_r1
  exact fm (wsL_law_r1_of _ (List.mem_of_getElem? (i := 16) rfl)) (fm (wsL_law_r4_of _ (List.mem_of_getElem? (i := 20) rfl)) (fm (wsL_law_r11_of _ (List.mem_of_getElem? (i := 10) rfl)) (fm (wsL_law_r10_of _ (List.mem_of_getElem? (i := 3) rfl)) (fm (wsL_law_r11_of _ (List.mem_of_getElem? (i := 11) rfl)) (fm (wsL_law_r11_of _ (List.mem_of_getElem? (i := 12) rfl)) (fm (wsL_law_r11_of _ (List.mem_of_getElem? (i := 13) rfl)) (fm (wsL_law_r11_of _ (List.mem_of_getElem? (i := 14) rfl)) (fm (wsL_law_r1_of _ (List.mem_of_getElem? (i := 21) rfl)) (fm (wsL_law_r11_of _ (List.mem_of_getElem? (i := 15) rfl)) (fm (wsL_law_r2_of _ (List.mem_of_getElem? (i := 1) rfl)) (fm (wsL_law_r11_of _ (List.mem_of_getElem? (i := 16) rfl)) (fm (wsL_law_r11_of _ (List.mem_of_getElem? (i := 17) rfl)) (fm (wsL_law_r4_of _ (List.mem_of_getElem? (i := 19) rfl)) (fm (wsL_law_r11_of _ (List.mem_of_getElem? (i := 18) rfl)) (fm (wsL_law_r11_of _ (List.mem_of_getElem? (i := 19) rfl)) (fm (wsL_law_r11_of _ (List.mem_of_getElem? (i := 20) rfl)) (fm (wsL_law_r1_of _ (List.mem_of_getElem? (i := 15) rfl)) (fm (wsL_law_r11_of _ (List.mem_of_getElem? (i := 21) rfl)) (fm (wsL_law_r2_of _ (List.mem_of_getElem? (i := 14) rfl)) (fm (wsL_law_r11_of _ (List.mem_of_getElem? (i := 22) rfl)) (fm (wsL_law_r11_of _ (List.mem_of_getElem? (i := 23) rfl)) (fm (wsL_law_r12_of _ (List.mem_of_getElem? (i := 0) rfl)) (fm (wsL_law_r2_of _ (List.mem_of_getElem? (i := 8) rfl)) (fm0))))))))))))))))))))))))) (by decide +kernel)
set_option maxRecDepth 20000 in
theorem gi_L_law_X5_count_1 : GoodIn wsL_law wsX5_count_r2 := gi_l (by
  unfold wsX5_count_r2
  exact fm (wsL_law_r12_of _ (List.mem_of_getElem? (i := 1) rfl)) (fm (wsL_law_r12_of _ (List.mem_of_getElem? (i := 2) rfl)) (fm (wsL_law_r10_of _ (List.mem_of_getElem? (i := 5) rfl)) (fm (wsL_law_r10_of _ (List.mem_of_getElem? (i := 6) rfl)) (fm (wsL_law_r10_of _ (List.mem_of_getElem? (i := 7) rfl)) (fm (wsL_law_r2_of _ (List.mem_of_getElem? (i := 23) rfl)) (fm (wsL_law_r12_of _ (List.mem_of_getElem? (i := 3) rfl)) (fm (wsL_law_r12_of _ (List.mem_of_getElem? (i := 4) rfl)) (fm (wsL_law_r12_of _ (List.mem_of_getElem? (i := 5) rfl)) (fm (wsL_law_r12_of _ (List.mem_of_getElem? (i := 6) rfl)) (fm (wsL_law_r2_of _ (List.mem_of_getElem? (i := 22) rfl)) (fm (wsL_law_r12_of _ (List.mem_of_getElem? (i := 7) rfl)) (fm (wsL_law_r12_of _ (List.mem_of_getElem? (i := 8) rfl)) (fm (wsL_law_r12_of _ (List.mem_of_getElem? (i := 9) rfl)) (fm (wsL_law_r12_of _ (List.mem_of_getElem? (i := 10) rfl)) (fm (wsL_law_r10_of _ (List.mem_of_getElem? (i := 23) rfl)) (fm (wsL_law_r11_of _ (List.mem_of_getElem? (i := 0) rfl)) (fm (wsL_law_r11_of _ (List.mem_of_getElem? (i := 1) rfl)) (fm (wsL_law_r11_of _ (List.mem_of_getElem? (i := 2) rfl)) (fm0)))))))))))))))))))) (by decide +kernel)
theorem ggL_law_X5_count : GoodIn wsL_law wsX5_count := gi_c (gi_l (fm (wsL_law_r11_of _ (List.mem_of_getElem? (i := 9) rfl)) fm0) (by decide +kernel)) (goodIn_app (goodIn_app (goodIn_app (goodIn_app (goodIn_app (goodIn_app (goodIn_app gi_L_law_X5_count_0 (gi_L_law_X5_count_1)) (gi_l wsL_law_wsX50 (by decide +kernel))) (gi_l wsL_law_wsX40 (by decide +kernel))) (gi_l wsL_law_wsX30 (by decide +kernel))) (gi_l wsL_law_wsX00 (by decide +kernel))) (gi_l wsL_law_wsX10 (by decide +kernel))) (gi_l wsL_law_wsX20 (by decide +kernel)))
theorem gL_law_X5_count : GoodIn wsL_law (wsV RL 128 RX5 yX5_count wsX5_count) := goodIn_app (gi_l (fm (wsL_law_r11_of _ (List.mem_of_getElem? (i := 6) rfl)) (fm (wsL_law_r11_of _ (List.mem_of_getElem? (i := 7) rfl)) (fm (wsL_law_r11_of _ (List.mem_of_getElem? (i := 8) rfl)) (fm (wsL_law_r1_of _ (List.mem_of_getElem? (i := 2) rfl)) (fm0))))) (by decide +kernel)) ggL_law_X5_count
theorem dL_law_0 : decode cL_law 0 = .ok (.new 56, 3) := by decide +kernel
theorem dL_law_3 : decode cL_law 3 = .ok (.dup, 1) := by decide +kernel
theorem dL_law_4 : decode cL_law 4 = .ok (.invokespecial 154, 3) := by decide +kernel
theorem dL_law_7 : decode cL_law 7 = .ok (.astore_n 1, 1) := by decide +kernel
theorem dL_law_8 : decode cL_law 8 = .ok (.bipush 6, 2) := by decide +kernel
theorem dL_law_10 : decode cL_law 10 = .ok (.newarray .int, 2) := by decide +kernel
theorem dL_law_12 : decode cL_law 12 = .ok (.astore_n 2, 1) := by decide +kernel
theorem dL_law_13 : decode cL_law 13 = .ok (.iconst 4, 1) := by decide +kernel
theorem dL_law_14 : decode cL_law 14 = .ok (.newarray .int, 2) := by decide +kernel
theorem dL_law_16 : decode cL_law 16 = .ok (.astore_n 3, 1) := by decide +kernel
theorem dL_law_17 : decode cL_law 17 = .ok (.bipush 16, 2) := by decide +kernel
theorem dL_law_19 : decode cL_law 19 = .ok (.newarray .int, 2) := by decide +kernel
theorem dL_law_21 : decode cL_law 21 = .ok (.astore 4, 2) := by decide +kernel
theorem dL_law_23 : decode cL_law 23 = .ok (.bipush 16, 2) := by decide +kernel
theorem dL_law_25 : decode cL_law 25 = .ok (.newarray .int, 2) := by decide +kernel
theorem dL_law_27 : decode cL_law 27 = .ok (.astore 5, 2) := by decide +kernel
theorem dL_law_29 : decode cL_law 29 = .ok (.bipush 16, 2) := by decide +kernel
theorem dL_law_31 : decode cL_law 31 = .ok (.newarray .long, 2) := by decide +kernel
theorem dL_law_33 : decode cL_law 33 = .ok (.astore 6, 2) := by decide +kernel
theorem dL_law_35 : decode cL_law 35 = .ok (.bipush 40, 2) := by decide +kernel
theorem dL_law_37 : decode cL_law 37 = .ok (.newarray .long, 2) := by decide +kernel
theorem dL_law_39 : decode cL_law 39 = .ok (.astore 7, 2) := by decide +kernel
theorem dL_law_41 : decode cL_law 41 = .ok (.bipush 40, 2) := by decide +kernel
theorem dL_law_43 : decode cL_law 43 = .ok (.newarray .long, 2) := by decide +kernel
theorem dL_law_45 : decode cL_law 45 = .ok (.astore 8, 2) := by decide +kernel
theorem dL_law_47 : decode cL_law 47 = .ok (.aload_n 2, 1) := by decide +kernel
theorem dL_law_48 : decode cL_law 48 = .ok (.iconst 0, 1) := by decide +kernel
theorem dL_law_49 : decode cL_law 49 = .ok (.iconst 1, 1) := by decide +kernel
theorem dL_law_50 : decode cL_law 50 = .ok (.iastore, 1) := by decide +kernel
theorem dL_law_51 : decode cL_law 51 = .ok (.aload_n 2, 1) := by decide +kernel
theorem dL_law_52 : decode cL_law 52 = .ok (.iconst 1, 1) := by decide +kernel
theorem dL_law_53 : decode cL_law 53 = .ok (.iconst 1, 1) := by decide +kernel
theorem dL_law_54 : decode cL_law 54 = .ok (.iastore, 1) := by decide +kernel
theorem dL_law_55 : decode cL_law 55 = .ok (.aload_n 2, 1) := by decide +kernel
theorem dL_law_56 : decode cL_law 56 = .ok (.iconst 2, 1) := by decide +kernel
theorem dL_law_57 : decode cL_law 57 = .ok (.iconst 1, 1) := by decide +kernel
theorem dL_law_58 : decode cL_law 58 = .ok (.iastore, 1) := by decide +kernel
theorem dL_law_59 : decode cL_law 59 = .ok (.aload_n 2, 1) := by decide +kernel
theorem dL_law_60 : decode cL_law 60 = .ok (.iconst 5, 1) := by decide +kernel
theorem dL_law_61 : decode cL_law 61 = .ok (.iconst 1, 1) := by decide +kernel
theorem dL_law_62 : decode cL_law 62 = .ok (.iastore, 1) := by decide +kernel
theorem dL_law_63 : decode cL_law 63 = .ok (.aload 5, 2) := by decide +kernel
theorem dL_law_65 : decode cL_law 65 = .ok (.iconst 0, 1) := by decide +kernel
theorem dL_law_66 : decode cL_law 66 = .ok (.iconst (-1), 1) := by decide +kernel
theorem dL_law_67 : decode cL_law 67 = .ok (.iastore, 1) := by decide +kernel
theorem dL_law_68 : decode cL_law 68 = .ok (.iconst 1, 1) := by decide +kernel
theorem dL_law_69 : decode cL_law 69 = .ok (.istore 9, 2) := by decide +kernel
theorem dL_law_71 : decode cL_law 71 = .ok (.iload 9, 2) := by decide +kernel
theorem dL_law_73 : decode cL_law 73 = .ok (.bipush 40, 2) := by decide +kernel
theorem dL_law_75 : decode cL_law 75 = .ok (.if_icmp .ge 35, 3) := by decide +kernel
theorem dL_law_78 : decode cL_law 78 = .ok (.aload 8, 2) := by decide +kernel
theorem dL_law_80 : decode cL_law 80 = .ok (.iload 9, 2) := by decide +kernel
theorem dL_law_82 : decode cL_law 82 = .ok (.ldc2_w 27, 3) := by decide +kernel
theorem dL_law_85 : decode cL_law 85 = .ok (.lastore, 1) := by decide +kernel
theorem dL_law_86 : decode cL_law 86 = .ok (.aload_n 3, 1) := by decide +kernel
theorem dL_law_87 : decode cL_law 87 = .ok (.iload 9, 2) := by decide +kernel
theorem dL_law_89 : decode cL_law 89 = .ok (.iconst 4, 1) := by decide +kernel
theorem dL_law_90 : decode cL_law 90 = .ok (.irem, 1) := by decide +kernel
theorem dL_law_91 : decode cL_law 91 = .ok (.iload 9, 2) := by decide +kernel
theorem dL_law_93 : decode cL_law 93 = .ok (.iconst 4, 1) := by decide +kernel
theorem dL_law_94 : decode cL_law 94 = .ok (.irem, 1) := by decide +kernel
theorem dL_law_95 : decode cL_law 95 = .ok (.ifCond .ne 7, 3) := by decide +kernel
theorem dL_law_98 : decode cL_law 98 = .ok (.iconst 0, 1) := by decide +kernel
theorem dL_law_99 : decode cL_law 99 = .ok (.goto 4, 3) := by decide +kernel
theorem dL_law_102 : decode cL_law 102 = .ok (.iconst (-1), 1) := by decide +kernel
theorem dL_law_103 : decode cL_law 103 = .ok (.iastore, 1) := by decide +kernel
theorem dL_law_104 : decode cL_law 104 = .ok (.iinc 9 1, 3) := by decide +kernel
theorem dL_law_107 : decode cL_law 107 = .ok (.goto (-36), 3) := by decide +kernel
theorem dL_law_110 : decode cL_law 110 = .ok (.aload_n 1, 1) := by decide +kernel
theorem dL_law_111 : decode cL_law 111 = .ok (.aload_n 2, 1) := by decide +kernel
theorem dL_law_112 : decode cL_law 112 = .ok (.aload_n 3, 1) := by decide +kernel
theorem dL_law_113 : decode cL_law 113 = .ok (.aload 4, 2) := by decide +kernel
theorem dL_law_115 : decode cL_law 115 = .ok (.aload 5, 2) := by decide +kernel
theorem dL_law_117 : decode cL_law 117 = .ok (.aload 6, 2) := by decide +kernel
theorem dL_law_119 : decode cL_law 119 = .ok (.aload 7, 2) := by decide +kernel
theorem dL_law_121 : decode cL_law 121 = .ok (.aload 8, 2) := by decide +kernel
theorem dL_law_123 : decode cL_law 123 = .ok (.invokestatic 155, 3) := by decide +kernel
theorem dL_law_126 : decode cL_law 126 = .ok (.istore 9, 2) := by decide +kernel
theorem dL_law_128 : decode cL_law 128 = .ok (.bipush 12, 2) := by decide +kernel
theorem dL_law_130 : decode cL_law 130 = .ok (.aload_n 0, 1) := by decide +kernel
theorem dL_law_131 : decode cL_law 131 = .ok (.iconst 0, 1) := by decide +kernel
theorem dL_law_132 : decode cL_law 132 = .ok (.invokestatic 158, 3) := by decide +kernel
theorem dL_law_135 : decode cL_law 135 = .ok (.bipush 54, 2) := by decide +kernel
theorem dL_law_137 : decode cL_law 137 = .ok (.invokestatic 93, 3) := by decide +kernel
theorem dL_law_140 : decode cL_law 140 = .ok (.iadd, 1) := by decide +kernel
theorem dL_law_141 : decode cL_law 141 = .ok (.istore 10, 2) := by decide +kernel
theorem dL_law_143 : decode cL_law 143 = .ok (.iconst 0, 1) := by decide +kernel
theorem dL_law_144 : decode cL_law 144 = .ok (.istore 11, 2) := by decide +kernel
theorem dL_law_146 : decode cL_law 146 = .ok (.iload 11, 2) := by decide +kernel
theorem dL_law_148 : decode cL_law 148 = .ok (.iload 10, 2) := by decide +kernel
theorem dL_law_150 : decode cL_law 150 = .ok (.if_icmp .ge 74, 3) := by decide +kernel
theorem dL_law_153 : decode cL_law 153 = .ok (.iload 9, 2) := by decide +kernel
theorem dL_law_155 : decode cL_law 155 = .ok (.ifCond .eq 69, 3) := by decide +kernel
theorem dL_law_158 : decode cL_law 158 = .ok (.aload_n 1, 1) := by decide +kernel
theorem dL_law_159 : decode cL_law 159 = .ok (.aload_n 2, 1) := by decide +kernel
theorem dL_law_160 : decode cL_law 160 = .ok (.aload_n 3, 1) := by decide +kernel
theorem dL_law_161 : decode cL_law 161 = .ok (.aload 4, 2) := by decide +kernel
theorem dL_law_163 : decode cL_law 163 = .ok (.aload 5, 2) := by decide +kernel
theorem dL_law_165 : decode cL_law 165 = .ok (.aload 6, 2) := by decide +kernel
theorem dL_law_167 : decode cL_law 167 = .ok (.aload 7, 2) := by decide +kernel
theorem dL_law_169 : decode cL_law 169 = .ok (.aload 8, 2) := by decide +kernel
theorem dL_law_171 : decode cL_law 171 = .ok (.aload_n 0, 1) := by decide +kernel
theorem dL_law_172 : decode cL_law 172 = .ok (.iconst 1, 1) := by decide +kernel
theorem dL_law_173 : decode cL_law 173 = .ok (.iload 11, 2) := by decide +kernel
theorem dL_law_175 : decode cL_law 175 = .ok (.iadd, 1) := by decide +kernel
theorem dL_law_176 : decode cL_law 176 = .ok (.invokestatic 158, 3) := by decide +kernel
theorem dL_law_179 : decode cL_law 179 = .ok (.sipush 7919, 3) := by decide +kernel
theorem dL_law_182 : decode cL_law 182 = .ok (.iload 11, 2) := by decide +kernel
theorem dL_law_184 : decode cL_law 184 = .ok (.imul, 1) := by decide +kernel
theorem dL_law_185 : decode cL_law 185 = .ok (.ixor, 1) := by decide +kernel
theorem dL_law_186 : decode cL_law 186 = .ok (.invokestatic 162, 3) := by decide +kernel
theorem dL_law_189 : decode cL_law 189 = .ok (.ifCond .eq 26, 3) := by decide +kernel
theorem dL_law_192 : decode cL_law 192 = .ok (.aload_n 1, 1) := by decide +kernel
theorem dL_law_193 : decode cL_law 193 = .ok (.aload_n 2, 1) := by decide +kernel
theorem dL_law_194 : decode cL_law 194 = .ok (.aload_n 3, 1) := by decide +kernel
theorem dL_law_195 : decode cL_law 195 = .ok (.aload 4, 2) := by decide +kernel
theorem dL_law_197 : decode cL_law 197 = .ok (.aload 5, 2) := by decide +kernel
theorem dL_law_199 : decode cL_law 199 = .ok (.aload 6, 2) := by decide +kernel
theorem dL_law_201 : decode cL_law 201 = .ok (.aload 7, 2) := by decide +kernel
theorem dL_law_203 : decode cL_law 203 = .ok (.aload 8, 2) := by decide +kernel
theorem dL_law_205 : decode cL_law 205 = .ok (.invokestatic 155, 3) := by decide +kernel
theorem dL_law_208 : decode cL_law 208 = .ok (.ifCond .eq 7, 3) := by decide +kernel
theorem dL_law_211 : decode cL_law 211 = .ok (.iconst 1, 1) := by decide +kernel
theorem dL_law_212 : decode cL_law 212 = .ok (.goto 4, 3) := by decide +kernel
theorem dL_law_215 : decode cL_law 215 = .ok (.iconst 0, 1) := by decide +kernel
theorem dL_law_216 : decode cL_law 216 = .ok (.istore 9, 2) := by decide +kernel
theorem dL_law_218 : decode cL_law 218 = .ok (.iinc 11 1, 3) := by decide +kernel
theorem dL_law_221 : decode cL_law 221 = .ok (.goto (-75), 3) := by decide +kernel
theorem dL_law_224 : decode cL_law 224 = .ok (.iload 9, 2) := by decide +kernel
theorem dL_law_226 : decode cL_law 226 = .ok (.ifCond .eq 40, 3) := by decide +kernel
theorem dL_law_229 : decode cL_law 229 = .ok (.aload_n 1, 1) := by decide +kernel
theorem dL_law_230 : decode cL_law 230 = .ok (.bipush 11, 2) := by decide +kernel
theorem dL_law_232 : decode cL_law 232 = .ok (.invokevirtual 128, 3) := by decide +kernel
theorem dL_law_235 : decode cL_law 235 = .ok (.ldc 84, 2) := by decide +kernel
theorem dL_law_237 : decode cL_law 237 = .ok (.if_icmp .ne 29, 3) := by decide +kernel
theorem dL_law_240 : decode cL_law 240 = .ok (.aload_n 1, 1) := by decide +kernel
theorem dL_law_241 : decode cL_law 241 = .ok (.bipush 19, 2) := by decide +kernel
theorem dL_law_243 : decode cL_law 243 = .ok (.invokevirtual 128, 3) := by decide +kernel
theorem dL_law_246 : decode cL_law 246 = .ok (.ldc 84, 2) := by decide +kernel
theorem dL_law_248 : decode cL_law 248 = .ok (.if_icmp .ne 18, 3) := by decide +kernel
theorem dL_law_251 : decode cL_law 251 = .ok (.aload_n 1, 1) := by decide +kernel
theorem dL_law_252 : decode cL_law 252 = .ok (.bipush 21, 2) := by decide +kernel
theorem dL_law_254 : decode cL_law 254 = .ok (.invokevirtual 128, 3) := by decide +kernel
theorem dL_law_257 : decode cL_law 257 = .ok (.ldc 84, 2) := by decide +kernel
theorem dL_law_259 : decode cL_law 259 = .ok (.if_icmp .ne 7, 3) := by decide +kernel
theorem dL_law_262 : decode cL_law 262 = .ok (.iconst 1, 1) := by decide +kernel
theorem dL_law_263 : decode cL_law 263 = .ok (.goto 4, 3) := by decide +kernel
theorem dL_law_266 : decode cL_law 266 = .ok (.iconst 0, 1) := by decide +kernel
theorem dL_law_267 : decode cL_law 267 = .ok (.ireturn, 1) := by decide +kernel
