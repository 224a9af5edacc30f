theorem inlX0 : ∀ w ∈ wsX00, w ∈ wsL_law := fun _ h => List.mem_append_left _ (List.mem_append_left _ (List.mem_append_left _ (List.mem_append_right _ h)))
theorem inlX1 : ∀ w ∈ wsX10, w ∈ wsL_law := fun _ h => List.mem_append_left _ (List.mem_append_left _ (List.mem_append_left _ (List.mem_append_left _ (List.mem_append_left _ (List.mem_append_left _ (List.mem_append_right _ h))))))
theorem inlX2 : ∀ w ∈ wsX20, w ∈ wsL_law := fun _ h => List.mem_append_left _ (List.mem_append_left _ (List.mem_append_right _ h))
theorem inlX3 : ∀ w ∈ wsX30, w ∈ wsL_law := fun _ h => List.mem_append_left _ (List.mem_append_left _ (List.mem_append_left _ (List.mem_append_left _ (List.mem_append_right _ h))))
theorem inlX4 : ∀ w ∈ wsX40, w ∈ wsL_law := fun _ h => List.mem_append_left _ (List.mem_append_right _ h)
theorem inlX5 : ∀ w ∈ wsX50, w ∈ wsL_law := fun _ h => List.mem_append_left _ (List.mem_append_left _ (List.mem_append_left _ (List.mem_append_left _ (List.mem_append_left _ (List.mem_append_left _ (List.mem_append_left _ (List.mem_append_right _ h)))))))
theorem inlX6 : ∀ w ∈ wsX60, w ∈ wsL_law := fun _ h => List.mem_append_left _ (List.mem_append_left _ (List.mem_append_left _ (List.mem_append_left _ (List.mem_append_left _ (List.mem_append_right _ h)))))
theorem inlX7 : ∀ w ∈ wsX70, w ∈ wsL_law := fun _ h => List.mem_append_left _ (List.mem_append_left _ (List.mem_append_left _ (List.mem_append_left _ (List.mem_append_left _ (List.mem_append_left _ (List.mem_append_left _ (List.mem_append_left _ (List.mem_append_left _ (List.mem_append_right _ h)))))))))
theorem inlX8 : ∀ w ∈ wsX80, w ∈ wsL_law := fun _ h => List.mem_append_left _ (List.mem_append_left _ (List.mem_append_left _ (List.mem_append_left _ (List.mem_append_left _ (List.mem_append_left _ (List.mem_append_left _ (List.mem_append_left _ (List.mem_append_right _ h))))))))
theorem inJ9 : ∀ w ∈ wsJ90, w ∈ lw_tbl := by decide +kernel
theorem inJ10 : ∀ w ∈ wsJ100, w ∈ lw_tbl := by decide +kernel
theorem inJ7 : ∀ w ∈ wsJ70, w ∈ lw_tbl := by decide +kernel
set_option maxRecDepth 20000 in
theorem ggX0_init_X2_init : GoodIn wsX0_init wsX2_init := goodIn_r _ [4, 5, 6, 7, 8, 9, 10, 11, 12, 13, 14, 15] (by decide +kernel) (by decide +kernel)
set_option maxRecDepth 20000 in
theorem gX0_init_X2_init : GoodIn wsX0_init (wsX2_init) := ggX0_init_X2_init
theorem dX0_init_0 : decode cX0_init 0 = .ok (.aload_n 0, 1) := by decide +kernel
theorem dX0_init_1 : decode cX0_init 1 = .ok (.iload_n 1, 1) := by decide +kernel
theorem dX0_init_2 : decode cX0_init 2 = .ok (.invokespecial 1, 3) := by decide +kernel
theorem dX0_init_5 : decode cX0_init 5 = .ok (.return_, 1) := by decide +kernel
theorem dX0_kindNumber_0 : decode cX0_kindNumber 0 = .ok (.iconst 2, 1) := by decide +kernel
theorem dX0_kindNumber_1 : decode cX0_kindNumber 1 = .ok (.ireturn, 1) := by decide +kernel
set_option maxRecDepth 20000 in
theorem ggX0_leaves_X2_leaves : GoodIn wsX0_leaves wsX2_leaves := goodIn_r _ [6, 7, 8, 9, 10, 11] (by decide +kernel) (by decide +kernel)
set_option maxRecDepth 20000 in
theorem gX0_leaves_X2_leaves_s7 : GoodIn wsX0_leaves (va_wsSU RX0 7 yX2_leaves wsX2_leaves) := goodIn_app (goodIn_of _ (by decide +kernel)) ggX0_leaves_X2_leaves
theorem dX0_leaves_0 : decode cX0_leaves 0 = .ok (.aload_n 0, 1) := by decide +kernel
theorem dX0_leaves_1 : decode cX0_leaves 1 = .ok (.iload_n 1, 1) := by decide +kernel
theorem dX0_leaves_2 : decode cX0_leaves 2 = .ok (.invokespecial 7, 3) := by decide +kernel
theorem dX0_leaves_5 : decode cX0_leaves 5 = .ok (.iconst 4, 1) := by decide +kernel
theorem dX0_leaves_6 : decode cX0_leaves 6 = .ok (.iadd, 1) := by decide +kernel
theorem dX0_leaves_7 : decode cX0_leaves 7 = .ok (.ireturn, 1) := by decide +kernel
set_option maxRecDepth 20000 in
theorem ggX0_says_X6_mark : GoodIn wsX0_says wsX6_mark := goodIn_r _ [5, 6, 33] (by decide +kernel) (by decide +kernel)
set_option maxRecDepth 20000 in
theorem gX0_says_X6_mark : GoodIn wsX0_says (wsV RX0 11 RX6 yX6_mark wsX6_mark) := goodIn_app (goodIn_of _ (by decide +kernel)) ggX0_says_X6_mark
set_option maxRecDepth 20000 in
theorem ggX0_says_X2_says : GoodIn wsX0_says wsX2_says := goodIn_r _ [12, 13, 2, 3, 4, 5, 6, 14, 15, 16, 17, 18, 19, 20, 21, 22, 23, 24, 25, 26, 27, 28, 29, 33, 34, 35, 36] (by decide +kernel) (by decide +kernel)
set_option maxRecDepth 20000 in
theorem gX0_says_X2_says_s16 : GoodIn wsX0_says (va_wsSU RX0 16 yX2_says wsX2_says) := goodIn_app (goodIn_of _ (by decide +kernel)) ggX0_says_X2_says
set_option maxRecDepth 20000 in
theorem ggX0_says_X4_saysPlainly : GoodIn wsX0_says wsX4_saysPlainly := goodIn_r _ [24, 25, 26, 2, 3, 4, 5, 6, 34, 35, 36, 33] (by decide +kernel) (by decide +kernel)
set_option maxRecDepth 20000 in
theorem gX0_says_X4_saysPlainly_u20X0 : GoodIn wsX0_says (va_wsU RX0 20 RX0 "GumHall$Sitter" ⟨"GumHall$Biter", "saysPlainly", "(LGumHall$Trail;)I"⟩ yX4_saysPlainly wsX4_saysPlainly) := goodIn_app (goodIn_of _ (by decide +kernel)) ggX0_says_X4_saysPlainly
theorem dX0_says_0 : decode cX0_says 0 = .ok (.aload_n 1, 1) := by decide +kernel
theorem dX0_says_1 : decode cX0_says 1 = .ok (.iconst 3, 1) := by decide +kernel
theorem dX0_says_2 : decode cX0_says 2 = .ok (.invokevirtual 11, 3) := by decide +kernel
theorem dX0_says_5 : decode cX0_says 5 = .ok (.aload_n 0, 1) := by decide +kernel
theorem dX0_says_6 : decode cX0_says 6 = .ok (.aload_n 1, 1) := by decide +kernel
theorem dX0_says_7 : decode cX0_says 7 = .ok (.invokespecial 16, 3) := by decide +kernel
theorem dX0_says_10 : decode cX0_says 10 = .ok (.istore_n 2, 1) := by decide +kernel
theorem dX0_says_11 : decode cX0_says 11 = .ok (.iload_n 2, 1) := by decide +kernel
theorem dX0_says_12 : decode cX0_says 12 = .ok (.aload_n 0, 1) := by decide +kernel
theorem dX0_says_13 : decode cX0_says 13 = .ok (.aload_n 1, 1) := by decide +kernel
theorem dX0_says_14 : decode cX0_says 14 = .ok (.invokevirtual 20, 3) := by decide +kernel
theorem dX0_says_17 : decode cX0_says 17 = .ok (.iadd, 1) := by decide +kernel
theorem dX0_says_18 : decode cX0_says 18 = .ok (.ireturn, 1) := by decide +kernel
set_option maxRecDepth 20000 in
theorem ggX0_isGreeted_X6_mark : GoodIn wsX0_isGreeted wsX6_mark := goodIn_r _ [5, 6, 7] (by decide +kernel) (by decide +kernel)
set_option maxRecDepth 20000 in
theorem gX0_isGreeted_X6_mark : GoodIn wsX0_isGreeted (wsV RX0 11 RX6 yX6_mark wsX6_mark) := goodIn_app (goodIn_of _ (by decide +kernel)) ggX0_isGreeted_X6_mark
theorem dX0_isGreeted_0 : decode cX0_isGreeted 0 = .ok (.aload_n 2, 1) := by decide +kernel
theorem dX0_isGreeted_1 : decode cX0_isGreeted 1 = .ok (.iconst 5, 1) := by decide +kernel
theorem dX0_isGreeted_2 : decode cX0_isGreeted 2 = .ok (.invokevirtual 11, 3) := by decide +kernel
theorem dX0_isGreeted_5 : decode cX0_isGreeted 5 = .ok (.bipush 70, 2) := by decide +kernel
theorem dX0_isGreeted_7 : decode cX0_isGreeted 7 = .ok (.ireturn, 1) := by decide +kernel
theorem dX1_init_0 : decode cX1_init 0 = .ok (.aload_n 0, 1) := by decide +kernel
theorem dX1_init_1 : decode cX1_init 1 = .ok (.invokespecial 3, 3) := by decide +kernel
theorem dX1_init_4 : decode cX1_init 4 = .ok (.aload_n 0, 1) := by decide +kernel
theorem dX1_init_5 : decode cX1_init 5 = .ok (.bipush 6, 2) := by decide +kernel
theorem dX1_init_7 : decode cX1_init 7 = .ok (.newarray .int, 2) := by decide +kernel
theorem dX1_init_9 : decode cX1_init 9 = .ok (.putfield 9, 3) := by decide +kernel
theorem dX1_init_12 : decode cX1_init 12 = .ok (.aload_n 0, 1) := by decide +kernel
theorem dX1_init_13 : decode cX1_init 13 = .ok (.bipush 6, 2) := by decide +kernel
theorem dX1_init_15 : decode cX1_init 15 = .ok (.newarray .int, 2) := by decide +kernel
theorem dX1_init_17 : decode cX1_init 17 = .ok (.putfield 15, 3) := by decide +kernel
theorem dX1_init_20 : decode cX1_init 20 = .ok (.aload_n 0, 1) := by decide +kernel
theorem dX1_init_21 : decode cX1_init 21 = .ok (.sipush 150, 3) := by decide +kernel
theorem dX1_init_24 : decode cX1_init 24 = .ok (.newarray .int, 2) := by decide +kernel
theorem dX1_init_26 : decode cX1_init 26 = .ok (.putfield 18, 3) := by decide +kernel
theorem dX1_init_29 : decode cX1_init 29 = .ok (.return_, 1) := by decide +kernel
theorem dX1_reset_0 : decode cX1_reset 0 = .ok (.iconst 0, 1) := by decide +kernel
theorem dX1_reset_1 : decode cX1_reset 1 = .ok (.istore_n 1, 1) := by decide +kernel
theorem dX1_reset_2 : decode cX1_reset 2 = .ok (.iload_n 1, 1) := by decide +kernel
theorem dX1_reset_3 : decode cX1_reset 3 = .ok (.bipush 6, 2) := by decide +kernel
theorem dX1_reset_5 : decode cX1_reset 5 = .ok (.if_icmp .ge 23, 3) := by decide +kernel
theorem dX1_reset_8 : decode cX1_reset 8 = .ok (.aload_n 0, 1) := by decide +kernel
theorem dX1_reset_9 : decode cX1_reset 9 = .ok (.getfield 9, 3) := by decide +kernel
theorem dX1_reset_12 : decode cX1_reset 12 = .ok (.iload_n 1, 1) := by decide +kernel
theorem dX1_reset_13 : decode cX1_reset 13 = .ok (.iload_n 1, 1) := by decide +kernel
theorem dX1_reset_14 : decode cX1_reset 14 = .ok (.iastore, 1) := by decide +kernel
theorem dX1_reset_15 : decode cX1_reset 15 = .ok (.aload_n 0, 1) := by decide +kernel
theorem dX1_reset_16 : decode cX1_reset 16 = .ok (.getfield 15, 3) := by decide +kernel
theorem dX1_reset_19 : decode cX1_reset 19 = .ok (.iload_n 1, 1) := by decide +kernel
theorem dX1_reset_20 : decode cX1_reset 20 = .ok (.iconst 0, 1) := by decide +kernel
theorem dX1_reset_21 : decode cX1_reset 21 = .ok (.iastore, 1) := by decide +kernel
theorem dX1_reset_22 : decode cX1_reset 22 = .ok (.iinc 1 1, 3) := by decide +kernel
theorem dX1_reset_25 : decode cX1_reset 25 = .ok (.goto (-23), 3) := by decide +kernel
theorem dX1_reset_28 : decode cX1_reset 28 = .ok (.return_, 1) := by decide +kernel
theorem dX1_chairIn_0 : decode cX1_chairIn 0 = .ok (.iload_n 1, 1) := by decide +kernel
theorem dX1_chairIn_1 : decode cX1_chairIn 1 = .ok (.ifCond .lt 18, 3) := by decide +kernel
theorem dX1_chairIn_4 : decode cX1_chairIn 4 = .ok (.iload_n 1, 1) := by decide +kernel
theorem dX1_chairIn_5 : decode cX1_chairIn 5 = .ok (.bipush 6, 2) := by decide +kernel
theorem dX1_chairIn_7 : decode cX1_chairIn 7 = .ok (.if_icmp .ge 12, 3) := by decide +kernel
theorem dX1_chairIn_10 : decode cX1_chairIn 10 = .ok (.aload_n 0, 1) := by decide +kernel
theorem dX1_chairIn_11 : decode cX1_chairIn 11 = .ok (.getfield 9, 3) := by decide +kernel
theorem dX1_chairIn_14 : decode cX1_chairIn 14 = .ok (.iload_n 1, 1) := by decide +kernel
theorem dX1_chairIn_15 : decode cX1_chairIn 15 = .ok (.iaload, 1) := by decide +kernel
theorem dX1_chairIn_16 : decode cX1_chairIn 16 = .ok (.goto 5, 3) := by decide +kernel
theorem dX1_chairIn_19 : decode cX1_chairIn 19 = .ok (.bipush (-9), 2) := by decide +kernel
theorem dX1_chairIn_21 : decode cX1_chairIn 21 = .ok (.ireturn, 1) := by decide +kernel
set_option maxRecDepth 20000 in
theorem ggX1_heightAt_X1_chairIn : GoodIn wsX1_heightAt wsX1_chairIn := goodIn_r _ [6, 7, 8, 9, 10] (by decide +kernel) (by decide +kernel)
set_option maxRecDepth 20000 in
theorem gX1_heightAt_X1_chairIn : GoodIn wsX1_heightAt (wsV RX1 21 RX1 yX1_chairIn wsX1_chairIn) := goodIn_app (goodIn_of _ (by decide +kernel)) ggX1_heightAt_X1_chairIn
theorem dX1_heightAt_0 : decode cX1_heightAt 0 = .ok (.aload_n 0, 1) := by decide +kernel
theorem dX1_heightAt_1 : decode cX1_heightAt 1 = .ok (.iload_n 1, 1) := by decide +kernel
theorem dX1_heightAt_2 : decode cX1_heightAt 2 = .ok (.invokevirtual 21, 3) := by decide +kernel
theorem dX1_heightAt_5 : decode cX1_heightAt 5 = .ok (.istore_n 2, 1) := by decide +kernel
theorem dX1_heightAt_6 : decode cX1_heightAt 6 = .ok (.iload_n 2, 1) := by decide +kernel
theorem dX1_heightAt_7 : decode cX1_heightAt 7 = .ok (.bipush (-9), 2) := by decide +kernel
theorem dX1_heightAt_9 : decode cX1_heightAt 9 = .ok (.if_icmp .ne 7, 3) := by decide +kernel
theorem dX1_heightAt_12 : decode cX1_heightAt 12 = .ok (.iconst 0, 1) := by decide +kernel
theorem dX1_heightAt_13 : decode cX1_heightAt 13 = .ok (.goto 9, 3) := by decide +kernel
theorem dX1_heightAt_16 : decode cX1_heightAt 16 = .ok (.aload_n 0, 1) := by decide +kernel
theorem dX1_heightAt_17 : decode cX1_heightAt 17 = .ok (.getfield 15, 3) := by decide +kernel
theorem dX1_heightAt_20 : decode cX1_heightAt 20 = .ok (.iload_n 2, 1) := by decide +kernel
theorem dX1_heightAt_21 : decode cX1_heightAt 21 = .ok (.iaload, 1) := by decide +kernel
theorem dX1_heightAt_22 : decode cX1_heightAt 22 = .ok (.ireturn, 1) := by decide +kernel
set_option maxRecDepth 20000 in
theorem ggX1_layerAt_X1_heightAt : GoodIn wsX1_layerAt wsX1_heightAt := goodIn_r _ [6, 7, 8, 9, 10, 5, 11, 12, 13, 14, 15] (by decide +kernel) (by decide +kernel)
set_option maxRecDepth 20000 in
theorem gX1_layerAt_X1_heightAt : GoodIn wsX1_layerAt (wsV RX1 25 RX1 yX1_heightAt wsX1_heightAt) := goodIn_app (goodIn_of _ (by decide +kernel)) ggX1_layerAt_X1_heightAt
set_option maxRecDepth 20000 in
theorem ggX1_layerAt_X1_chairIn : GoodIn wsX1_layerAt wsX1_chairIn := goodIn_r _ [11, 12, 13, 14, 15] (by decide +kernel) (by decide +kernel)
set_option maxRecDepth 20000 in
theorem gX1_layerAt_X1_chairIn : GoodIn wsX1_layerAt (wsV RX1 21 RX1 yX1_chairIn wsX1_chairIn) := goodIn_app (goodIn_of _ (by decide +kernel)) ggX1_layerAt_X1_chairIn
theorem dX1_layerAt_0 : decode cX1_layerAt 0 = .ok (.iload_n 2, 1) := by decide +kernel
theorem dX1_layerAt_1 : decode cX1_layerAt 1 = .ok (.ifCond .lt 12, 3) := by decide +kernel
theorem dX1_layerAt_4 : decode cX1_layerAt 4 = .ok (.iload_n 2, 1) := by decide +kernel
theorem dX1_layerAt_5 : decode cX1_layerAt 5 = .ok (.aload_n 0, 1) := by decide +kernel
theorem dX1_layerAt_6 : decode cX1_layerAt 6 = .ok (.iload_n 1, 1) := by decide +kernel
theorem dX1_layerAt_7 : decode cX1_layerAt 7 = .ok (.invokevirtual 25, 3) := by decide +kernel
theorem dX1_layerAt_10 : decode cX1_layerAt 10 = .ok (.if_icmp .lt 6, 3) := by decide +kernel
theorem dX1_layerAt_13 : decode cX1_layerAt 13 = .ok (.bipush (-9), 2) := by decide +kernel
theorem dX1_layerAt_15 : decode cX1_layerAt 15 = .ok (.ireturn, 1) := by decide +kernel
theorem dX1_layerAt_16 : decode cX1_layerAt 16 = .ok (.aload_n 0, 1) := by decide +kernel
theorem dX1_layerAt_17 : decode cX1_layerAt 17 = .ok (.getfield 18, 3) := by decide +kernel
theorem dX1_layerAt_20 : decode cX1_layerAt 20 = .ok (.aload_n 0, 1) := by decide +kernel
theorem dX1_layerAt_21 : decode cX1_layerAt 21 = .ok (.iload_n 1, 1) := by decide +kernel
theorem dX1_layerAt_22 : decode cX1_layerAt 22 = .ok (.invokevirtual 21, 3) := by decide +kernel
theorem dX1_layerAt_25 : decode cX1_layerAt 25 = .ok (.bipush 25, 2) := by decide +kernel
theorem dX1_layerAt_27 : decode cX1_layerAt 27 = .ok (.imul, 1) := by decide +kernel
theorem dX1_layerAt_28 : decode cX1_layerAt 28 = .ok (.iload_n 2, 1) := by decide +kernel
theorem dX1_layerAt_29 : decode cX1_layerAt 29 = .ok (.iadd, 1) := by decide +kernel
theorem dX1_layerAt_30 : decode cX1_layerAt 30 = .ok (.iaload, 1) := by decide +kernel
theorem dX1_layerAt_31 : decode cX1_layerAt 31 = .ok (.ireturn, 1) := by decide +kernel
set_option maxRecDepth 20000 in
theorem ggX1_wipe_X1_chairIn : GoodIn wsX1_wipe wsX1_chairIn := goodIn_r _ [6, 7, 8, 9, 10] (by decide +kernel) (by decide +kernel)
set_option maxRecDepth 20000 in
theorem gX1_wipe_X1_chairIn : GoodIn wsX1_wipe (wsV RX1 21 RX1 yX1_chairIn wsX1_chairIn) := goodIn_app (goodIn_of _ (by decide +kernel)) ggX1_wipe_X1_chairIn
theorem dX1_wipe_0 : decode cX1_wipe 0 = .ok (.aload_n 0, 1) := by decide +kernel
theorem dX1_wipe_1 : decode cX1_wipe 1 = .ok (.iload_n 1, 1) := by decide +kernel
theorem dX1_wipe_2 : decode cX1_wipe 2 = .ok (.invokevirtual 21, 3) := by decide +kernel
theorem dX1_wipe_5 : decode cX1_wipe 5 = .ok (.istore_n 2, 1) := by decide +kernel
theorem dX1_wipe_6 : decode cX1_wipe 6 = .ok (.iload_n 2, 1) := by decide +kernel
theorem dX1_wipe_7 : decode cX1_wipe 7 = .ok (.bipush (-9), 2) := by decide +kernel
theorem dX1_wipe_9 : decode cX1_wipe 9 = .ok (.if_icmp .eq 10, 3) := by decide +kernel
theorem dX1_wipe_12 : decode cX1_wipe 12 = .ok (.aload_n 0, 1) := by decide +kernel
theorem dX1_wipe_13 : decode cX1_wipe 13 = .ok (.getfield 15, 3) := by decide +kernel
theorem dX1_wipe_16 : decode cX1_wipe 16 = .ok (.iload_n 2, 1) := by decide +kernel
theorem dX1_wipe_17 : decode cX1_wipe 17 = .ok (.iconst 0, 1) := by decide +kernel
theorem dX1_wipe_18 : decode cX1_wipe 18 = .ok (.iastore, 1) := by decide +kernel
theorem dX1_wipe_19 : decode cX1_wipe 19 = .ok (.return_, 1) := by decide +kernel
set_option maxRecDepth 20000 in
theorem ggX1_swap_X1_chairIn : GoodIn wsX1_swap wsX1_chairIn := goodIn_r _ [6, 1, 7, 8, 9] (by decide +kernel) (by decide +kernel)
set_option maxRecDepth 20000 in
theorem gX1_swap_X1_chairIn : GoodIn wsX1_swap (wsV RX1 21 RX1 yX1_chairIn wsX1_chairIn) := goodIn_app (goodIn_of _ (by decide +kernel)) ggX1_swap_X1_chairIn
theorem dX1_swap_0 : decode cX1_swap 0 = .ok (.aload_n 0, 1) := by decide +kernel
theorem dX1_swap_1 : decode cX1_swap 1 = .ok (.iload_n 1, 1) := by decide +kernel
theorem dX1_swap_2 : decode cX1_swap 2 = .ok (.invokevirtual 21, 3) := by decide +kernel
theorem dX1_swap_5 : decode cX1_swap 5 = .ok (.istore_n 3, 1) := by decide +kernel
theorem dX1_swap_6 : decode cX1_swap 6 = .ok (.aload_n 0, 1) := by decide +kernel
theorem dX1_swap_7 : decode cX1_swap 7 = .ok (.iload_n 2, 1) := by decide +kernel
theorem dX1_swap_8 : decode cX1_swap 8 = .ok (.invokevirtual 21, 3) := by decide +kernel
theorem dX1_swap_11 : decode cX1_swap 11 = .ok (.istore 4, 2) := by decide +kernel
theorem dX1_swap_13 : decode cX1_swap 13 = .ok (.iload_n 3, 1) := by decide +kernel
theorem dX1_swap_14 : decode cX1_swap 14 = .ok (.bipush (-9), 2) := by decide +kernel
theorem dX1_swap_16 : decode cX1_swap 16 = .ok (.if_icmp .eq 10, 3) := by decide +kernel
theorem dX1_swap_19 : decode cX1_swap 19 = .ok (.iload 4, 2) := by decide +kernel
theorem dX1_swap_21 : decode cX1_swap 21 = .ok (.bipush (-9), 2) := by decide +kernel
theorem dX1_swap_23 : decode cX1_swap 23 = .ok (.if_icmp .ne 4, 3) := by decide +kernel
theorem dX1_swap_26 : decode cX1_swap 26 = .ok (.return_, 1) := by decide +kernel
theorem dX1_swap_27 : decode cX1_swap 27 = .ok (.aload_n 0, 1) := by decide +kernel
theorem dX1_swap_28 : decode cX1_swap 28 = .ok (.getfield 9, 3) := by decide +kernel
theorem dX1_swap_31 : decode cX1_swap 31 = .ok (.iload_n 1, 1) := by decide +kernel
theorem dX1_swap_32 : decode cX1_swap 32 = .ok (.iload 4, 2) := by decide +kernel
theorem dX1_swap_34 : decode cX1_swap 34 = .ok (.iastore, 1) := by decide +kernel
theorem dX1_swap_35 : decode cX1_swap 35 = .ok (.aload_n 0, 1) := by decide +kernel
theorem dX1_swap_36 : decode cX1_swap 36 = .ok (.getfield 9, 3) := by decide +kernel
theorem dX1_swap_39 : decode cX1_swap 39 = .ok (.iload_n 2, 1) := by decide +kernel
theorem dX1_swap_40 : decode cX1_swap 40 = .ok (.iload_n 3, 1) := by decide +kernel
theorem dX1_swap_41 : decode cX1_swap 41 = .ok (.iastore, 1) := by decide +kernel
theorem dX1_swap_42 : decode cX1_swap 42 = .ok (.return_, 1) := by decide +kernel
set_option maxRecDepth 20000 in
theorem ggX1_press_X1_chairIn : GoodIn wsX1_press wsX1_chairIn := goodIn_r _ [7, 8, 9, 10, 11] (by decide +kernel) (by decide +kernel)
set_option maxRecDepth 20000 in
theorem gX1_press_X1_chairIn : GoodIn wsX1_press (wsV RX1 21 RX1 yX1_chairIn wsX1_chairIn) := goodIn_app (goodIn_of _ (by decide +kernel)) ggX1_press_X1_chairIn
theorem dX1_press_0 : decode cX1_press 0 = .ok (.aload_n 0, 1) := by decide +kernel
theorem dX1_press_1 : decode cX1_press 1 = .ok (.iload_n 1, 1) := by decide +kernel
theorem dX1_press_2 : decode cX1_press 2 = .ok (.invokevirtual 21, 3) := by decide +kernel
theorem dX1_press_5 : decode cX1_press 5 = .ok (.istore_n 3, 1) := by decide +kernel
theorem dX1_press_6 : decode cX1_press 6 = .ok (.iload_n 3, 1) := by decide +kernel
theorem dX1_press_7 : decode cX1_press 7 = .ok (.bipush (-9), 2) := by decide +kernel
theorem dX1_press_9 : decode cX1_press 9 = .ok (.if_icmp .eq 14, 3) := by decide +kernel
theorem dX1_press_12 : decode cX1_press 12 = .ok (.aload_n 0, 1) := by decide +kernel
theorem dX1_press_13 : decode cX1_press 13 = .ok (.getfield 15, 3) := by decide +kernel
theorem dX1_press_16 : decode cX1_press 16 = .ok (.iload_n 3, 1) := by decide +kernel
theorem dX1_press_17 : decode cX1_press 17 = .ok (.iaload, 1) := by decide +kernel
theorem dX1_press_18 : decode cX1_press 18 = .ok (.bipush 25, 2) := by decide +kernel
theorem dX1_press_20 : decode cX1_press 20 = .ok (.if_icmp .lt 4, 3) := by decide +kernel
theorem dX1_press_23 : decode cX1_press 23 = .ok (.return_, 1) := by decide +kernel
theorem dX1_press_24 : decode cX1_press 24 = .ok (.aload_n 0, 1) := by decide +kernel
theorem dX1_press_25 : decode cX1_press 25 = .ok (.getfield 18, 3) := by decide +kernel
theorem dX1_press_28 : decode cX1_press 28 = .ok (.iload_n 3, 1) := by decide +kernel
theorem dX1_press_29 : decode cX1_press 29 = .ok (.bipush 25, 2) := by decide +kernel
theorem dX1_press_31 : decode cX1_press 31 = .ok (.imul, 1) := by decide +kernel
theorem dX1_press_32 : decode cX1_press 32 = .ok (.aload_n 0, 1) := by decide +kernel
theorem dX1_press_33 : decode cX1_press 33 = .ok (.getfield 15, 3) := by decide +kernel
theorem dX1_press_36 : decode cX1_press 36 = .ok (.iload_n 3, 1) := by decide +kernel
theorem dX1_press_37 : decode cX1_press 37 = .ok (.iaload, 1) := by decide +kernel
theorem dX1_press_38 : decode cX1_press 38 = .ok (.iadd, 1) := by decide +kernel
theorem dX1_press_39 : decode cX1_press 39 = .ok (.iload_n 2, 1) := by decide +kernel
theorem dX1_press_40 : decode cX1_press 40 = .ok (.iastore, 1) := by decide +kernel
theorem dX1_press_41 : decode cX1_press 41 = .ok (.aload_n 0, 1) := by decide +kernel
theorem dX1_press_42 : decode cX1_press 42 = .ok (.getfield 15, 3) := by decide +kernel
theorem dX1_press_45 : decode cX1_press 45 = .ok (.iload_n 3, 1) := by decide +kernel
theorem dX1_press_46 : decode cX1_press 46 = .ok (.dup2, 1) := by decide +kernel
theorem dX1_press_47 : decode cX1_press 47 = .ok (.iaload, 1) := by decide +kernel
theorem dX1_press_48 : decode cX1_press 48 = .ok (.iconst 1, 1) := by decide +kernel
theorem dX1_press_49 : decode cX1_press 49 = .ok (.iadd, 1) := by decide +kernel
theorem dX1_press_50 : decode cX1_press 50 = .ok (.iastore, 1) := by decide +kernel
theorem dX1_press_51 : decode cX1_press 51 = .ok (.return_, 1) := by decide +kernel
set_option maxRecDepth 20000 in
theorem ggX2_init_X4_init : GoodIn wsX2_init wsX4_init := goodIn_r _ [4, 5, 6, 7, 8, 9, 10, 11] (by decide +kernel) (by decide +kernel)
set_option maxRecDepth 20000 in
theorem gX2_init_X4_init : GoodIn wsX2_init (wsX4_init) := ggX2_init_X4_init
theorem dX2_init_0 : decode cX2_init 0 = .ok (.aload_n 0, 1) := by decide +kernel
theorem dX2_init_1 : decode cX2_init 1 = .ok (.iload_n 1, 1) := by decide +kernel
theorem dX2_init_2 : decode cX2_init 2 = .ok (.invokespecial 1, 3) := by decide +kernel
theorem dX2_init_5 : decode cX2_init 5 = .ok (.return_, 1) := by decide +kernel
theorem dX2_kindNumber_0 : decode cX2_kindNumber 0 = .ok (.iconst 1, 1) := by decide +kernel
theorem dX2_kindNumber_1 : decode cX2_kindNumber 1 = .ok (.ireturn, 1) := by decide +kernel
theorem dX2_leaves_0 : decode cX2_leaves 0 = .ok (.aload_n 0, 1) := by decide +kernel
theorem dX2_leaves_1 : decode cX2_leaves 1 = .ok (.getfield 7, 3) := by decide +kernel
theorem dX2_leaves_4 : decode cX2_leaves 4 = .ok (.iload_n 1, 1) := by decide +kernel
theorem dX2_leaves_5 : decode cX2_leaves 5 = .ok (.bipush 10, 2) := by decide +kernel
theorem dX2_leaves_7 : decode cX2_leaves 7 = .ok (.idiv, 1) := by decide +kernel
theorem dX2_leaves_8 : decode cX2_leaves 8 = .ok (.iadd, 1) := by decide +kernel
theorem dX2_leaves_9 : decode cX2_leaves 9 = .ok (.iconst 4, 1) := by decide +kernel
theorem dX2_leaves_10 : decode cX2_leaves 10 = .ok (.irem, 1) := by decide +kernel
theorem dX2_leaves_11 : decode cX2_leaves 11 = .ok (.ireturn, 1) := by decide +kernel
set_option maxRecDepth 20000 in
theorem ggX2_says_X6_mark : GoodIn wsX2_says wsX6_mark := goodIn_r _ [5, 6, 23] (by decide +kernel) (by decide +kernel)
set_option maxRecDepth 20000 in
theorem gX2_says_X6_mark : GoodIn wsX2_says (wsV RX2 13 RX6 yX6_mark wsX6_mark) := goodIn_app (goodIn_of _ (by decide +kernel)) ggX2_says_X6_mark
set_option maxRecDepth 20000 in
theorem ggX2_says_X4_says : GoodIn wsX2_says wsX4_says := goodIn_r _ [12, 13, 14, 15, 16, 11, 17, 18, 19, 2, 3, 4, 5, 6, 20, 21, 22, 24, 25, 26, 23] (by decide +kernel) (by decide +kernel)
set_option maxRecDepth 20000 in
theorem gX2_says_X4_says_s18 : GoodIn wsX2_says (va_wsSU RX2 18 yX4_says wsX4_says) := goodIn_app (goodIn_of _ (by decide +kernel)) ggX2_says_X4_says
theorem dX2_says_0 : decode cX2_says 0 = .ok (.aload_n 1, 1) := by decide +kernel
theorem dX2_says_1 : decode cX2_says 1 = .ok (.iconst 2, 1) := by decide +kernel
theorem dX2_says_2 : decode cX2_says 2 = .ok (.invokevirtual 13, 3) := by decide +kernel
theorem dX2_says_5 : decode cX2_says 5 = .ok (.aload_n 0, 1) := by decide +kernel
theorem dX2_says_6 : decode cX2_says 6 = .ok (.aload_n 1, 1) := by decide +kernel
theorem dX2_says_7 : decode cX2_says 7 = .ok (.invokespecial 18, 3) := by decide +kernel
theorem dX2_says_10 : decode cX2_says 10 = .ok (.bipush 100, 2) := by decide +kernel
theorem dX2_says_12 : decode cX2_says 12 = .ok (.iadd, 1) := by decide +kernel
theorem dX2_says_13 : decode cX2_says 13 = .ok (.ireturn, 1) := by decide +kernel
theorem dX3_init_0 : decode cX3_init 0 = .ok (.aload_n 0, 1) := by decide +kernel
theorem dX3_init_1 : decode cX3_init 1 = .ok (.invokespecial 3, 3) := by decide +kernel
theorem dX3_init_4 : decode cX3_init 4 = .ok (.aload_n 0, 1) := by decide +kernel
theorem dX3_init_5 : decode cX3_init 5 = .ok (.bipush 60, 2) := by decide +kernel
theorem dX3_init_7 : decode cX3_init 7 = .ok (.newarray .int, 2) := by decide +kernel
theorem dX3_init_9 : decode cX3_init 9 = .ok (.putfield 9, 3) := by decide +kernel
theorem dX3_init_12 : decode cX3_init 12 = .ok (.aload_n 0, 1) := by decide +kernel
theorem dX3_init_13 : decode cX3_init 13 = .ok (.iconst 0, 1) := by decide +kernel
theorem dX3_init_14 : decode cX3_init 14 = .ok (.putfield 15, 3) := by decide +kernel
theorem dX3_init_17 : decode cX3_init 17 = .ok (.aload_n 0, 1) := by decide +kernel
theorem dX3_init_18 : decode cX3_init 18 = .ok (.iconst (-1), 1) := by decide +kernel
theorem dX3_init_19 : decode cX3_init 19 = .ok (.putfield 19, 3) := by decide +kernel
theorem dX3_init_22 : decode cX3_init 22 = .ok (.return_, 1) := by decide +kernel
theorem dX3_isNothing_0 : decode cX3_isNothing 0 = .ok (.aload_n 0, 1) := by decide +kernel
theorem dX3_isNothing_1 : decode cX3_isNothing 1 = .ok (.getfield 19, 3) := by decide +kernel
theorem dX3_isNothing_4 : decode cX3_isNothing 4 = .ok (.iconst (-1), 1) := by decide +kernel
theorem dX3_isNothing_5 : decode cX3_isNothing 5 = .ok (.if_icmp .ne 7, 3) := by decide +kernel
theorem dX3_isNothing_8 : decode cX3_isNothing 8 = .ok (.iconst 1, 1) := by decide +kernel
theorem dX3_isNothing_9 : decode cX3_isNothing 9 = .ok (.goto 4, 3) := by decide +kernel
theorem dX3_isNothing_12 : decode cX3_isNothing 12 = .ok (.iconst 0, 1) := by decide +kernel
theorem dX3_isNothing_13 : decode cX3_isNothing 13 = .ok (.ireturn, 1) := by decide +kernel
set_option maxRecDepth 20000 in
theorem ggX3_renew_J7_fill_53178 : GoodIn wsX3_renew wsJ7_fill_53178 := goodIn_r _ [14] (by decide +kernel) (by decide +kernel)
set_option maxRecDepth 20000 in
theorem gX3_renew_J7_fill_53178 : GoodIn wsX3_renew (va_wsS RX3 22 yJ7_fill_53178 wsJ7_fill_53178) := goodIn_app (goodIn_of _ (by decide +kernel)) ggX3_renew_J7_fill_53178
theorem dX3_renew_0 : decode cX3_renew 0 = .ok (.aload_n 0, 1) := by decide +kernel
theorem dX3_renew_1 : decode cX3_renew 1 = .ok (.getfield 9, 3) := by decide +kernel
theorem dX3_renew_4 : decode cX3_renew 4 = .ok (.iconst 0, 1) := by decide +kernel
theorem dX3_renew_5 : decode cX3_renew 5 = .ok (.invokestatic 22, 3) := by decide +kernel
theorem dX3_renew_8 : decode cX3_renew 8 = .ok (.aload_n 0, 1) := by decide +kernel
theorem dX3_renew_9 : decode cX3_renew 9 = .ok (.iconst 0, 1) := by decide +kernel
theorem dX3_renew_10 : decode cX3_renew 10 = .ok (.iload_n 2, 1) := by decide +kernel
theorem dX3_renew_11 : decode cX3_renew 11 = .ok (.bipush 60, 2) := by decide +kernel
theorem dX3_renew_13 : decode cX3_renew 13 = .ok (.invokestatic 28, 3) := by decide +kernel
theorem dX3_renew_16 : decode cX3_renew 16 = .ok (.invokestatic 34, 3) := by decide +kernel
theorem dX3_renew_19 : decode cX3_renew 19 = .ok (.putfield 15, 3) := by decide +kernel
theorem dX3_renew_22 : decode cX3_renew 22 = .ok (.aload_n 0, 1) := by decide +kernel
theorem dX3_renew_23 : decode cX3_renew 23 = .ok (.iload_n 1, 1) := by decide +kernel
theorem dX3_renew_24 : decode cX3_renew 24 = .ok (.putfield 19, 3) := by decide +kernel
theorem dX3_renew_27 : decode cX3_renew 27 = .ok (.return_, 1) := by decide +kernel
theorem dX3_drop_0 : decode cX3_drop 0 = .ok (.aload_n 0, 1) := by decide +kernel
theorem dX3_drop_1 : decode cX3_drop 1 = .ok (.iconst 0, 1) := by decide +kernel
theorem dX3_drop_2 : decode cX3_drop 2 = .ok (.putfield 15, 3) := by decide +kernel
theorem dX3_drop_5 : decode cX3_drop 5 = .ok (.aload_n 0, 1) := by decide +kernel
theorem dX3_drop_6 : decode cX3_drop 6 = .ok (.iconst (-1), 1) := by decide +kernel
theorem dX3_drop_7 : decode cX3_drop 7 = .ok (.putfield 19, 3) := by decide +kernel
theorem dX3_drop_10 : decode cX3_drop 10 = .ok (.return_, 1) := by decide +kernel
set_option maxRecDepth 20000 in
theorem ggX3_faultAs_X3_isNothing : GoodIn wsX3_faultAs wsX3_isNothing := goodIn_r _ [6, 1, 7, 8, 9] (by decide +kernel) (by decide +kernel)
set_option maxRecDepth 20000 in
theorem gX3_faultAs_X3_isNothing : GoodIn wsX3_faultAs (wsV RX3 37 RX3 yX3_isNothing wsX3_isNothing) := goodIn_app (goodIn_of _ (by decide +kernel)) ggX3_faultAs_X3_isNothing
theorem dX3_faultAs_0 : decode cX3_faultAs 0 = .ok (.aload_n 0, 1) := by decide +kernel
theorem dX3_faultAs_1 : decode cX3_faultAs 1 = .ok (.invokevirtual 37, 3) := by decide +kernel
theorem dX3_faultAs_4 : decode cX3_faultAs 4 = .ok (.ifCond .eq 5, 3) := by decide +kernel
theorem dX3_faultAs_7 : decode cX3_faultAs 7 = .ok (.iconst 1, 1) := by decide +kernel
theorem dX3_faultAs_8 : decode cX3_faultAs 8 = .ok (.ireturn, 1) := by decide +kernel
theorem dX3_faultAs_9 : decode cX3_faultAs 9 = .ok (.aload_n 0, 1) := by decide +kernel
theorem dX3_faultAs_10 : decode cX3_faultAs 10 = .ok (.getfield 19, 3) := by decide +kernel
theorem dX3_faultAs_13 : decode cX3_faultAs 13 = .ok (.iload_n 1, 1) := by decide +kernel
theorem dX3_faultAs_14 : decode cX3_faultAs 14 = .ok (.if_icmp .ne 7, 3) := by decide +kernel
theorem dX3_faultAs_17 : decode cX3_faultAs 17 = .ok (.iconst 0, 1) := by decide +kernel
theorem dX3_faultAs_18 : decode cX3_faultAs 18 = .ok (.goto 4, 3) := by decide +kernel
theorem dX3_faultAs_21 : decode cX3_faultAs 21 = .ok (.iconst 2, 1) := by decide +kernel
theorem dX3_faultAs_22 : decode cX3_faultAs 22 = .ok (.ireturn, 1) := by decide +kernel
theorem dX3_reaches_0 : decode cX3_reaches 0 = .ok (.iload_n 1, 1) := by decide +kernel
theorem dX3_reaches_1 : decode cX3_reaches 1 = .ok (.ifCond .lt 29, 3) := by decide +kernel
theorem dX3_reaches_4 : decode cX3_reaches 4 = .ok (.iload_n 1, 1) := by decide +kernel
theorem dX3_reaches_5 : decode cX3_reaches 5 = .ok (.aload_n 0, 1) := by decide +kernel
theorem dX3_reaches_6 : decode cX3_reaches 6 = .ok (.getfield 15, 3) := by decide +kernel
theorem dX3_reaches_9 : decode cX3_reaches 9 = .ok (.if_icmp .gt 21, 3) := by decide +kernel
theorem dX3_reaches_12 : decode cX3_reaches 12 = .ok (.iload_n 2, 1) := by decide +kernel
theorem dX3_reaches_13 : decode cX3_reaches 13 = .ok (.ifCond .lt 17, 3) := by decide +kernel
theorem dX3_reaches_16 : decode cX3_reaches 16 = .ok (.iload_n 2, 1) := by decide +kernel
theorem dX3_reaches_17 : decode cX3_reaches 17 = .ok (.aload_n 0, 1) := by decide +kernel
theorem dX3_reaches_18 : decode cX3_reaches 18 = .ok (.getfield 15, 3) := by decide +kernel
theorem dX3_reaches_21 : decode cX3_reaches 21 = .ok (.iload_n 1, 1) := by decide +kernel
theorem dX3_reaches_22 : decode cX3_reaches 22 = .ok (.isub, 1) := by decide +kernel
theorem dX3_reaches_23 : decode cX3_reaches 23 = .ok (.if_icmp .gt 7, 3) := by decide +kernel
theorem dX3_reaches_26 : decode cX3_reaches 26 = .ok (.iconst 1, 1) := by decide +kernel
theorem dX3_reaches_27 : decode cX3_reaches 27 = .ok (.goto 4, 3) := by decide +kernel
theorem dX3_reaches_30 : decode cX3_reaches 30 = .ok (.iconst 0, 1) := by decide +kernel
theorem dX3_reaches_31 : decode cX3_reaches 31 = .ok (.ireturn, 1) := by decide +kernel
set_option maxRecDepth 20000 in
theorem ggX3_read_X3_reaches : GoodIn wsX3_read wsX3_reaches := goodIn_r _ [6, 7, 8, 9, 10] (by decide +kernel) (by decide +kernel)
set_option maxRecDepth 20000 in
theorem gX3_read_X3_reaches : GoodIn wsX3_read (wsV RX3 41 RX3 yX3_reaches wsX3_reaches) := goodIn_app (goodIn_of _ (by decide +kernel)) ggX3_read_X3_reaches
theorem dX3_read_0 : decode cX3_read 0 = .ok (.aload_n 0, 1) := by decide +kernel
theorem dX3_read_1 : decode cX3_read 1 = .ok (.iload_n 1, 1) := by decide +kernel
theorem dX3_read_2 : decode cX3_read 2 = .ok (.iconst 1, 1) := by decide +kernel
theorem dX3_read_3 : decode cX3_read 3 = .ok (.invokevirtual 41, 3) := by decide +kernel
theorem dX3_read_6 : decode cX3_read 6 = .ok (.ifCond .eq 12, 3) := by decide +kernel
theorem dX3_read_9 : decode cX3_read 9 = .ok (.aload_n 0, 1) := by decide +kernel
theorem dX3_read_10 : decode cX3_read 10 = .ok (.getfield 9, 3) := by decide +kernel
theorem dX3_read_13 : decode cX3_read 13 = .ok (.iload_n 1, 1) := by decide +kernel
theorem dX3_read_14 : decode cX3_read 14 = .ok (.iaload, 1) := by decide +kernel
theorem dX3_read_15 : decode cX3_read 15 = .ok (.goto 4, 3) := by decide +kernel
theorem dX3_read_18 : decode cX3_read 18 = .ok (.iconst 0, 1) := by decide +kernel
theorem dX3_read_19 : decode cX3_read 19 = .ok (.ireturn, 1) := by decide +kernel
set_option maxRecDepth 20000 in
theorem ggX3_write_X3_reaches : GoodIn wsX3_write wsX3_reaches := goodIn_r _ [6, 7, 13, 14, 15] (by decide +kernel) (by decide +kernel)
set_option maxRecDepth 20000 in
theorem gX3_write_X3_reaches : GoodIn wsX3_write (wsV RX3 41 RX3 yX3_reaches wsX3_reaches) := goodIn_app (goodIn_of _ (by decide +kernel)) ggX3_write_X3_reaches
set_option maxRecDepth 20000 in
theorem ggX3_write_X3_cut : GoodIn wsX3_write wsX3_cut := goodIn_r _ [11, 12, 13, 14, 15] (by decide +kernel) (by decide +kernel)
set_option maxRecDepth 20000 in
theorem gX3_write_X3_cut : GoodIn wsX3_write (wsV RX3 45 RX3 yX3_cut wsX3_cut) := goodIn_app (goodIn_of _ (by decide +kernel)) ggX3_write_X3_cut
theorem dX3_write_0 : decode cX3_write 0 = .ok (.aload_n 0, 1) := by decide +kernel
theorem dX3_write_1 : decode cX3_write 1 = .ok (.iload_n 1, 1) := by decide +kernel
theorem dX3_write_2 : decode cX3_write 2 = .ok (.iconst 1, 1) := by decide +kernel
theorem dX3_write_3 : decode cX3_write 3 = .ok (.invokevirtual 41, 3) := by decide +kernel
theorem dX3_write_6 : decode cX3_write 6 = .ok (.ifCond .eq 14, 3) := by decide +kernel
theorem dX3_write_9 : decode cX3_write 9 = .ok (.aload_n 0, 1) := by decide +kernel
theorem dX3_write_10 : decode cX3_write 10 = .ok (.getfield 9, 3) := by decide +kernel
theorem dX3_write_13 : decode cX3_write 13 = .ok (.iload_n 1, 1) := by decide +kernel
theorem dX3_write_14 : decode cX3_write 14 = .ok (.aload_n 0, 1) := by decide +kernel
theorem dX3_write_15 : decode cX3_write 15 = .ok (.iload_n 2, 1) := by decide +kernel
theorem dX3_write_16 : decode cX3_write 16 = .ok (.invokevirtual 45, 3) := by decide +kernel
theorem dX3_write_19 : decode cX3_write 19 = .ok (.iastore, 1) := by decide +kernel
theorem dX3_write_20 : decode cX3_write 20 = .ok (.return_, 1) := by decide +kernel
theorem dX3_cut_0 : decode cX3_cut 0 = .ok (.aload_n 0, 1) := by decide +kernel
theorem dX3_cut_1 : decode cX3_cut 1 = .ok (.getfield 19, 3) := by decide +kernel
theorem dX3_cut_4 : decode cX3_cut 4 = .ok (.ifCond .ne 6, 3) := by decide +kernel
theorem dX3_cut_7 : decode cX3_cut 7 = .ok (.iload_n 1, 1) := by decide +kernel
theorem dX3_cut_8 : decode cX3_cut 8 = .ok (.i2b, 1) := by decide +kernel
theorem dX3_cut_9 : decode cX3_cut 9 = .ok (.ireturn, 1) := by decide +kernel
theorem dX3_cut_10 : decode cX3_cut 10 = .ok (.aload_n 0, 1) := by decide +kernel
theorem dX3_cut_11 : decode cX3_cut 11 = .ok (.getfield 19, 3) := by decide +kernel
theorem dX3_cut_14 : decode cX3_cut 14 = .ok (.iconst 1, 1) := by decide +kernel
theorem dX3_cut_15 : decode cX3_cut 15 = .ok (.if_icmp .ne 8, 3) := by decide +kernel
theorem dX3_cut_18 : decode cX3_cut 18 = .ok (.iload_n 1, 1) := by decide +kernel
theorem dX3_cut_19 : decode cX3_cut 19 = .ok (.i2s, 1) := by decide +kernel
theorem dX3_cut_20 : decode cX3_cut 20 = .ok (.goto 4, 3) := by decide +kernel
theorem dX3_cut_23 : decode cX3_cut 23 = .ok (.iload_n 1, 1) := by decide +kernel
theorem dX3_cut_24 : decode cX3_cut 24 = .ok (.ireturn, 1) := by decide +kernel
set_option maxRecDepth 20000 in
theorem ggX3_take_X3_reaches : GoodIn wsX3_take wsX3_reaches := goodIn_r _ [10, 11, 12, 13, 14] (by decide +kernel) (by decide +kernel)
set_option maxRecDepth 20000 in
theorem gX3_take_X3_reaches : GoodIn wsX3_take (wsV RX3 41 RX3 yX3_reaches wsX3_reaches) := goodIn_app (goodIn_of _ (by decide +kernel)) ggX3_take_X3_reaches
theorem dX3_take_0 : decode cX3_take 0 = .ok (.aload_n 2, 1) := by decide +kernel
theorem dX3_take_1 : decode cX3_take 1 = .ok (.ifnull 23, 3) := by decide +kernel
theorem dX3_take_4 : decode cX3_take 4 = .ok (.aload_n 2, 1) := by decide +kernel
theorem dX3_take_5 : decode cX3_take 5 = .ok (.iload_n 3, 1) := by decide +kernel
theorem dX3_take_6 : decode cX3_take 6 = .ok (.iload 4, 2) := by decide +kernel
theorem dX3_take_8 : decode cX3_take 8 = .ok (.invokevirtual 41, 3) := by decide +kernel
theorem dX3_take_11 : decode cX3_take 11 = .ok (.ifCond .eq 13, 3) := by decide +kernel
theorem dX3_take_14 : decode cX3_take 14 = .ok (.aload_n 0, 1) := by decide +kernel
theorem dX3_take_15 : decode cX3_take 15 = .ok (.iload_n 1, 1) := by decide +kernel
theorem dX3_take_16 : decode cX3_take 16 = .ok (.iload 4, 2) := by decide +kernel
theorem dX3_take_18 : decode cX3_take 18 = .ok (.invokevirtual 41, 3) := by decide +kernel
theorem dX3_take_21 : decode cX3_take 21 = .ok (.ifCond .ne 4, 3) := by decide +kernel
theorem dX3_take_24 : decode cX3_take 24 = .ok (.return_, 1) := by decide +kernel
theorem dX3_take_25 : decode cX3_take 25 = .ok (.aload_n 2, 1) := by decide +kernel
theorem dX3_take_26 : decode cX3_take 26 = .ok (.getfield 9, 3) := by decide +kernel
theorem dX3_take_29 : decode cX3_take 29 = .ok (.iload_n 3, 1) := by decide +kernel
theorem dX3_take_30 : decode cX3_take 30 = .ok (.aload_n 0, 1) := by decide +kernel
theorem dX3_take_31 : decode cX3_take 31 = .ok (.getfield 9, 3) := by decide +kernel
theorem dX3_take_34 : decode cX3_take 34 = .ok (.iload_n 1, 1) := by decide +kernel
theorem dX3_take_35 : decode cX3_take 35 = .ok (.iload 4, 2) := by decide +kernel
theorem dX3_take_37 : decode cX3_take 37 = .ok (.invokestatic 49, 3) := by decide +kernel
theorem dX3_take_40 : decode cX3_take 40 = .ok (.return_, 1) := by decide +kernel
theorem dX4_init_0 : decode cX4_init 0 = .ok (.aload_n 0, 1) := by decide +kernel
theorem dX4_init_1 : decode cX4_init 1 = .ok (.invokespecial 1, 3) := by decide +kernel
theorem dX4_init_4 : decode cX4_init 4 = .ok (.aload_n 0, 1) := by decide +kernel
theorem dX4_init_5 : decode cX4_init 5 = .ok (.iload_n 1, 1) := by decide +kernel
theorem dX4_init_6 : decode cX4_init 6 = .ok (.putfield 7, 3) := by decide +kernel
theorem dX4_init_9 : decode cX4_init 9 = .ok (.return_, 1) := by decide +kernel
theorem dX4_kindNumber_0 : decode cX4_kindNumber 0 = .ok (.iconst 0, 1) := by decide +kernel
theorem dX4_kindNumber_1 : decode cX4_kindNumber 1 = .ok (.ireturn, 1) := by decide +kernel
theorem dX4_leaves_0 : decode cX4_leaves 0 = .ok (.aload_n 0, 1) := by decide +kernel
theorem dX4_leaves_1 : decode cX4_leaves 1 = .ok (.getfield 7, 3) := by decide +kernel
theorem dX4_leaves_4 : decode cX4_leaves 4 = .ok (.ireturn, 1) := by decide +kernel
set_option maxRecDepth 20000 in
theorem ggX4_says_X4_saysPlainly : GoodIn wsX4_says wsX4_saysPlainly := goodIn_r _ [6, 7, 8, 9, 10, 11, 12, 13, 17, 18, 19, 20] (by decide +kernel) (by decide +kernel)
set_option maxRecDepth 20000 in
theorem gX4_says_X4_saysPlainly_u13X0 : GoodIn wsX4_says (va_wsU RX4 13 RX0 "GumHall$Sitter" ⟨"GumHall$Sitter", "saysPlainly", "(LGumHall$Trail;)I"⟩ yX4_saysPlainly wsX4_saysPlainly) := goodIn_app (goodIn_of _ (by decide +kernel)) ggX4_says_X4_saysPlainly
set_option maxRecDepth 20000 in
theorem gX4_says_X4_saysPlainly_u13X2 : GoodIn wsX4_says (va_wsU RX4 13 RX2 "GumHall$Sitter" ⟨"GumHall$Sitter", "saysPlainly", "(LGumHall$Trail;)I"⟩ yX4_saysPlainly wsX4_saysPlainly) := goodIn_app (goodIn_of _ (by decide +kernel)) ggX4_says_X4_saysPlainly
set_option maxRecDepth 20000 in
theorem gX4_says_X4_saysPlainly : GoodIn wsX4_says (wsV RX4 13 RX4 yX4_saysPlainly wsX4_saysPlainly) := goodIn_app (goodIn_of _ (by decide +kernel)) ggX4_says_X4_saysPlainly
theorem dX4_says_0 : decode cX4_says 0 = .ok (.aload_n 0, 1) := by decide +kernel
theorem dX4_says_1 : decode cX4_says 1 = .ok (.aload_n 1, 1) := by decide +kernel
theorem dX4_says_2 : decode cX4_says 2 = .ok (.invokevirtual 13, 3) := by decide +kernel
theorem dX4_says_5 : decode cX4_says 5 = .ok (.ireturn, 1) := by decide +kernel
set_option maxRecDepth 20000 in
theorem ggX4_saysPlainly_X6_mark : GoodIn wsX4_saysPlainly wsX6_mark := goodIn_r _ [6, 7, 11] (by decide +kernel) (by decide +kernel)
set_option maxRecDepth 20000 in
theorem gX4_saysPlainly_X6_mark : GoodIn wsX4_saysPlainly (wsV RX4 17 RX6 yX6_mark wsX6_mark) := goodIn_app (goodIn_of _ (by decide +kernel)) ggX4_saysPlainly_X6_mark
theorem dX4_saysPlainly_0 : decode cX4_saysPlainly 0 = .ok (.aload_n 1, 1) := by decide +kernel
theorem dX4_saysPlainly_1 : decode cX4_saysPlainly 1 = .ok (.iconst 1, 1) := by decide +kernel
theorem dX4_saysPlainly_2 : decode cX4_saysPlainly 2 = .ok (.invokevirtual 17, 3) := by decide +kernel
theorem dX4_saysPlainly_5 : decode cX4_saysPlainly 5 = .ok (.aload_n 0, 1) := by decide +kernel
theorem dX4_saysPlainly_6 : decode cX4_saysPlainly 6 = .ok (.getfield 7, 3) := by decide +kernel
theorem dX4_saysPlainly_9 : decode cX4_saysPlainly 9 = .ok (.ireturn, 1) := by decide +kernel
set_option maxRecDepth 20000 in
theorem ggX4_isGreeted_X6_mark : GoodIn wsX4_isGreeted wsX6_mark := goodIn_r _ [5, 6, 7] (by decide +kernel) (by decide +kernel)
set_option maxRecDepth 20000 in
theorem gX4_isGreeted_X6_mark : GoodIn wsX4_isGreeted (wsV RX4 17 RX6 yX6_mark wsX6_mark) := goodIn_app (goodIn_of _ (by decide +kernel)) ggX4_isGreeted_X6_mark
theorem dX4_isGreeted_0 : decode cX4_isGreeted 0 = .ok (.aload_n 2, 1) := by decide +kernel
theorem dX4_isGreeted_1 : decode cX4_isGreeted 1 = .ok (.iconst 4, 1) := by decide +kernel
theorem dX4_isGreeted_2 : decode cX4_isGreeted 2 = .ok (.invokevirtual 17, 3) := by decide +kernel
theorem dX4_isGreeted_5 : decode cX4_isGreeted 5 = .ok (.iload_n 1, 1) := by decide +kernel
theorem dX4_isGreeted_6 : decode cX4_isGreeted 6 = .ok (.ireturn, 1) := by decide +kernel
theorem dX5_init_0 : decode cX5_init 0 = .ok (.aload_n 0, 1) := by decide +kernel
theorem dX5_init_1 : decode cX5_init 1 = .ok (.invokespecial 3, 3) := by decide +kernel
theorem dX5_init_4 : decode cX5_init 4 = .ok (.aload_n 0, 1) := by decide +kernel
theorem dX5_init_5 : decode cX5_init 5 = .ok (.iconst 4, 1) := by decide +kernel
theorem dX5_init_6 : decode cX5_init 6 = .ok (.newarray .int, 2) := by decide +kernel
theorem dX5_init_8 : decode cX5_init 8 = .ok (.putfield 11, 3) := by decide +kernel
theorem dX5_init_11 : decode cX5_init 11 = .ok (.aload_n 0, 1) := by decide +kernel
theorem dX5_init_12 : decode cX5_init 12 = .ok (.bipush 48, 2) := by decide +kernel
theorem dX5_init_14 : decode cX5_init 14 = .ok (.newarray .int, 2) := by decide +kernel
theorem dX5_init_16 : decode cX5_init 16 = .ok (.putfield 15, 3) := by decide +kernel
theorem dX5_init_19 : decode cX5_init 19 = .ok (.aload_n 0, 1) := by decide +kernel
theorem dX5_init_20 : decode cX5_init 20 = .ok (.bipush 48, 2) := by decide +kernel
theorem dX5_init_22 : decode cX5_init 22 = .ok (.newarray .int, 2) := by decide +kernel
theorem dX5_init_24 : decode cX5_init 24 = .ok (.putfield 18, 3) := by decide +kernel
theorem dX5_init_27 : decode cX5_init 27 = .ok (.aload_n 0, 1) := by decide +kernel
theorem dX5_init_28 : decode cX5_init 28 = .ok (.bipush 48, 2) := by decide +kernel
theorem dX5_init_30 : decode cX5_init 30 = .ok (.newarray .int, 2) := by decide +kernel
theorem dX5_init_32 : decode cX5_init 32 = .ok (.putfield 21, 3) := by decide +kernel
theorem dX5_init_35 : decode cX5_init 35 = .ok (.aload_n 0, 1) := by decide +kernel
theorem dX5_init_36 : decode cX5_init 36 = .ok (.bipush 48, 2) := by decide +kernel
theorem dX5_init_38 : decode cX5_init 38 = .ok (.newarray .int, 2) := by decide +kernel
theorem dX5_init_40 : decode cX5_init 40 = .ok (.putfield 24, 3) := by decide +kernel
theorem dX5_init_43 : decode cX5_init 43 = .ok (.aload_n 0, 1) := by decide +kernel
theorem dX5_init_44 : decode cX5_init 44 = .ok (.bipush 48, 2) := by decide +kernel
theorem dX5_init_46 : decode cX5_init 46 = .ok (.newarray .int, 2) := by decide +kernel
theorem dX5_init_48 : decode cX5_init 48 = .ok (.putfield 27, 3) := by decide +kernel
theorem dX5_init_51 : decode cX5_init 51 = .ok (.aload_n 0, 1) := by decide +kernel
theorem dX5_init_52 : decode cX5_init 52 = .ok (.iconst 0, 1) := by decide +kernel
theorem dX5_init_53 : decode cX5_init 53 = .ok (.putfield 30, 3) := by decide +kernel
theorem dX5_init_56 : decode cX5_init 56 = .ok (.return_, 1) := by decide +kernel
set_option maxRecDepth 20000 in
theorem ggX5_clear_J7_fill_53178 : GoodIn wsX5_clear wsJ7_fill_53178 := goodIn_r _ [6] (by decide +kernel) (by decide +kernel)
set_option maxRecDepth 20000 in
theorem gX5_clear_J7_fill_53178 : GoodIn wsX5_clear (va_wsS RX5 34 yJ7_fill_53178 wsJ7_fill_53178) := goodIn_app (goodIn_of _ (by decide +kernel)) ggX5_clear_J7_fill_53178
theorem dX5_clear_0 : decode cX5_clear 0 = .ok (.aload_n 0, 1) := by decide +kernel
theorem dX5_clear_1 : decode cX5_clear 1 = .ok (.getfield 11, 3) := by decide +kernel
theorem dX5_clear_4 : decode cX5_clear 4 = .ok (.iconst 0, 1) := by decide +kernel
theorem dX5_clear_5 : decode cX5_clear 5 = .ok (.invokestatic 34, 3) := by decide +kernel
theorem dX5_clear_8 : decode cX5_clear 8 = .ok (.aload_n 0, 1) := by decide +kernel
theorem dX5_clear_9 : decode cX5_clear 9 = .ok (.iconst 0, 1) := by decide +kernel
theorem dX5_clear_10 : decode cX5_clear 10 = .ok (.putfield 30, 3) := by decide +kernel
theorem dX5_clear_13 : decode cX5_clear 13 = .ok (.return_, 1) := by decide +kernel
theorem dX5_count_0 : decode cX5_count 0 = .ok (.iload_n 1, 1) := by decide +kernel
theorem dX5_count_1 : decode cX5_count 1 = .ok (.ifCond .lt 17, 3) := by decide +kernel
theorem dX5_count_4 : decode cX5_count 4 = .ok (.iload_n 1, 1) := by decide +kernel
theorem dX5_count_5 : decode cX5_count 5 = .ok (.iconst 4, 1) := by decide +kernel
theorem dX5_count_6 : decode cX5_count 6 = .ok (.if_icmp .ge 12, 3) := by decide +kernel
theorem dX5_count_9 : decode cX5_count 9 = .ok (.aload_n 0, 1) := by decide +kernel
theorem dX5_count_10 : decode cX5_count 10 = .ok (.getfield 11, 3) := by decide +kernel
theorem dX5_count_13 : decode cX5_count 13 = .ok (.iload_n 1, 1) := by decide +kernel
theorem dX5_count_14 : decode cX5_count 14 = .ok (.iaload, 1) := by decide +kernel
theorem dX5_count_15 : decode cX5_count 15 = .ok (.goto 4, 3) := by decide +kernel
theorem dX5_count_18 : decode cX5_count 18 = .ok (.iconst 0, 1) := by decide +kernel
theorem dX5_count_19 : decode cX5_count 19 = .ok (.ireturn, 1) := by decide +kernel
theorem dX5_isFull_0 : decode cX5_isFull 0 = .ok (.iload_n 1, 1) := by decide +kernel
theorem dX5_isFull_1 : decode cX5_isFull 1 = .ok (.ifCond .lt 22, 3) := by decide +kernel
theorem dX5_isFull_4 : decode cX5_isFull 4 = .ok (.iload_n 1, 1) := by decide +kernel
theorem dX5_isFull_5 : decode cX5_isFull 5 = .ok (.iconst 4, 1) := by decide +kernel
theorem dX5_isFull_6 : decode cX5_isFull 6 = .ok (.if_icmp .ge 17, 3) := by decide +kernel
theorem dX5_isFull_9 : decode cX5_isFull 9 = .ok (.aload_n 0, 1) := by decide +kernel
theorem dX5_isFull_10 : decode cX5_isFull 10 = .ok (.getfield 11, 3) := by decide +kernel
theorem dX5_isFull_13 : decode cX5_isFull 13 = .ok (.iload_n 1, 1) := by decide +kernel
theorem dX5_isFull_14 : decode cX5_isFull 14 = .ok (.iaload, 1) := by decide +kernel
theorem dX5_isFull_15 : decode cX5_isFull 15 = .ok (.getstatic 40, 3) := by decide +kernel
theorem dX5_isFull_18 : decode cX5_isFull 18 = .ok (.iload_n 1, 1) := by decide +kernel
theorem dX5_isFull_19 : decode cX5_isFull 19 = .ok (.iaload, 1) := by decide +kernel
theorem dX5_isFull_20 : decode cX5_isFull 20 = .ok (.if_icmp .lt 7, 3) := by decide +kernel
theorem dX5_isFull_23 : decode cX5_isFull 23 = .ok (.iconst 1, 1) := by decide +kernel
theorem dX5_isFull_24 : decode cX5_isFull 24 = .ok (.goto 4, 3) := by decide +kernel
theorem dX5_isFull_27 : decode cX5_isFull 27 = .ok (.iconst 0, 1) := by decide +kernel
theorem dX5_isFull_28 : decode cX5_isFull 28 = .ok (.ireturn, 1) := by decide +kernel
set_option maxRecDepth 20000 in
theorem ggX5_add_X5_isBefore : GoodIn wsX5_add wsX5_isBefore := goodIn_r _ [14, 5, 15, 16, 13, 17, 4, 18, 19, 20, 21, 22, 23, 24] (by decide +kernel) (by decide +kernel)
set_option maxRecDepth 20000 in
theorem gX5_add_X5_isBefore : GoodIn wsX5_add (wsV RX5 46 RX5 yX5_isBefore wsX5_isBefore) := goodIn_app (goodIn_of _ (by decide +kernel)) ggX5_add_X5_isBefore
theorem dX5_add_0 : decode cX5_add 0 = .ok (.iload_n 1, 1) := by decide +kernel
theorem dX5_add_1 : decode cX5_add 1 = .ok (.ifCond .lt 31, 3) := by decide +kernel
theorem dX5_add_4 : decode cX5_add 4 = .ok (.iload_n 1, 1) := by decide +kernel
theorem dX5_add_5 : decode cX5_add 5 = .ok (.iconst 4, 1) := by decide +kernel
theorem dX5_add_6 : decode cX5_add 6 = .ok (.if_icmp .ge 26, 3) := by decide +kernel
theorem dX5_add_9 : decode cX5_add 9 = .ok (.aload_n 0, 1) := by decide +kernel
theorem dX5_add_10 : decode cX5_add 10 = .ok (.getfield 11, 3) := by decide +kernel
theorem dX5_add_13 : decode cX5_add 13 = .ok (.iload_n 1, 1) := by decide +kernel
theorem dX5_add_14 : decode cX5_add 14 = .ok (.iaload, 1) := by decide +kernel
theorem dX5_add_15 : decode cX5_add 15 = .ok (.getstatic 40, 3) := by decide +kernel
theorem dX5_add_18 : decode cX5_add 18 = .ok (.iload_n 1, 1) := by decide +kernel
theorem dX5_add_19 : decode cX5_add 19 = .ok (.iaload, 1) := by decide +kernel
theorem dX5_add_20 : decode cX5_add 20 = .ok (.if_icmp .gt 12, 3) := by decide +kernel
theorem dX5_add_23 : decode cX5_add 23 = .ok (.aload_n 0, 1) := by decide +kernel
theorem dX5_add_24 : decode cX5_add 24 = .ok (.getfield 30, 3) := by decide +kernel
theorem dX5_add_27 : decode cX5_add 27 = .ok (.bipush 48, 2) := by decide +kernel
theorem dX5_add_29 : decode cX5_add 29 = .ok (.if_icmp .lt 6, 3) := by decide +kernel
theorem dX5_add_32 : decode cX5_add 32 = .ok (.bipush (-4), 2) := by decide +kernel
theorem dX5_add_34 : decode cX5_add 34 = .ok (.ireturn, 1) := by decide +kernel
theorem dX5_add_35 : decode cX5_add 35 = .ok (.aload_n 0, 1) := by decide +kernel
theorem dX5_add_36 : decode cX5_add 36 = .ok (.getfield 11, 3) := by decide +kernel
theorem dX5_add_39 : decode cX5_add 39 = .ok (.iload_n 1, 1) := by decide +kernel
theorem dX5_add_40 : decode cX5_add 40 = .ok (.iaload, 1) := by decide +kernel
theorem dX5_add_41 : decode cX5_add 41 = .ok (.istore 6, 2) := by decide +kernel
theorem dX5_add_43 : decode cX5_add 43 = .ok (.getstatic 43, 3) := by decide +kernel
theorem dX5_add_46 : decode cX5_add 46 = .ok (.iload_n 1, 1) := by decide +kernel
theorem dX5_add_47 : decode cX5_add 47 = .ok (.iaload, 1) := by decide +kernel
theorem dX5_add_48 : decode cX5_add 48 = .ok (.iload 6, 2) := by decide +kernel
theorem dX5_add_50 : decode cX5_add 50 = .ok (.iadd, 1) := by decide +kernel
theorem dX5_add_51 : decode cX5_add 51 = .ok (.istore 7, 2) := by decide +kernel
theorem dX5_add_53 : decode cX5_add 53 = .ok (.aload_n 0, 1) := by decide +kernel
theorem dX5_add_54 : decode cX5_add 54 = .ok (.getfield 15, 3) := by decide +kernel
theorem dX5_add_57 : decode cX5_add 57 = .ok (.iload 7, 2) := by decide +kernel
theorem dX5_add_59 : decode cX5_add 59 = .ok (.iload_n 2, 1) := by decide +kernel
theorem dX5_add_60 : decode cX5_add 60 = .ok (.iastore, 1) := by decide +kernel
theorem dX5_add_61 : decode cX5_add 61 = .ok (.aload_n 0, 1) := by decide +kernel
theorem dX5_add_62 : decode cX5_add 62 = .ok (.getfield 18, 3) := by decide +kernel
theorem dX5_add_65 : decode cX5_add 65 = .ok (.iload 7, 2) := by decide +kernel
theorem dX5_add_67 : decode cX5_add 67 = .ok (.iload_n 3, 1) := by decide +kernel
theorem dX5_add_68 : decode cX5_add 68 = .ok (.iastore, 1) := by decide +kernel
theorem dX5_add_69 : decode cX5_add 69 = .ok (.aload_n 0, 1) := by decide +kernel
theorem dX5_add_70 : decode cX5_add 70 = .ok (.getfield 21, 3) := by decide +kernel
theorem dX5_add_73 : decode cX5_add 73 = .ok (.iload 7, 2) := by decide +kernel
theorem dX5_add_75 : decode cX5_add 75 = .ok (.iload 4, 2) := by decide +kernel
theorem dX5_add_77 : decode cX5_add 77 = .ok (.iastore, 1) := by decide +kernel
theorem dX5_add_78 : decode cX5_add 78 = .ok (.aload_n 0, 1) := by decide +kernel
theorem dX5_add_79 : decode cX5_add 79 = .ok (.getfield 24, 3) := by decide +kernel
theorem dX5_add_82 : decode cX5_add 82 = .ok (.iload 7, 2) := by decide +kernel
theorem dX5_add_84 : decode cX5_add 84 = .ok (.iload 5, 2) := by decide +kernel
theorem dX5_add_86 : decode cX5_add 86 = .ok (.iastore, 1) := by decide +kernel
theorem dX5_add_87 : decode cX5_add 87 = .ok (.aload_n 0, 1) := by decide +kernel
theorem dX5_add_88 : decode cX5_add 88 = .ok (.getfield 30, 3) := by decide +kernel
theorem dX5_add_91 : decode cX5_add 91 = .ok (.istore 8, 2) := by decide +kernel
theorem dX5_add_93 : decode cX5_add 93 = .ok (.iload 8, 2) := by decide +kernel
theorem dX5_add_95 : decode cX5_add 95 = .ok (.ifCond .le 43, 3) := by decide +kernel
theorem dX5_add_98 : decode cX5_add 98 = .ok (.aload_n 0, 1) := by decide +kernel
theorem dX5_add_99 : decode cX5_add 99 = .ok (.iload 7, 2) := by decide +kernel
theorem dX5_add_101 : decode cX5_add 101 = .ok (.aload_n 0, 1) := by decide +kernel
theorem dX5_add_102 : decode cX5_add 102 = .ok (.getfield 27, 3) := by decide +kernel
theorem dX5_add_105 : decode cX5_add 105 = .ok (.iload 8, 2) := by decide +kernel
theorem dX5_add_107 : decode cX5_add 107 = .ok (.iconst 1, 1) := by decide +kernel
theorem dX5_add_108 : decode cX5_add 108 = .ok (.isub, 1) := by decide +kernel
theorem dX5_add_109 : decode cX5_add 109 = .ok (.iaload, 1) := by decide +kernel
theorem dX5_add_110 : decode cX5_add 110 = .ok (.invokevirtual 46, 3) := by decide +kernel
theorem dX5_add_113 : decode cX5_add 113 = .ok (.ifCond .eq 25, 3) := by decide +kernel
theorem dX5_add_116 : decode cX5_add 116 = .ok (.aload_n 0, 1) := by decide +kernel
theorem dX5_add_117 : decode cX5_add 117 = .ok (.getfield 27, 3) := by decide +kernel
theorem dX5_add_120 : decode cX5_add 120 = .ok (.iload 8, 2) := by decide +kernel
theorem dX5_add_122 : decode cX5_add 122 = .ok (.aload_n 0, 1) := by decide +kernel
theorem dX5_add_123 : decode cX5_add 123 = .ok (.getfield 27, 3) := by decide +kernel
theorem dX5_add_126 : decode cX5_add 126 = .ok (.iload 8, 2) := by decide +kernel
theorem dX5_add_128 : decode cX5_add 128 = .ok (.iconst 1, 1) := by decide +kernel
theorem dX5_add_129 : decode cX5_add 129 = .ok (.isub, 1) := by decide +kernel
theorem dX5_add_130 : decode cX5_add 130 = .ok (.iaload, 1) := by decide +kernel
theorem dX5_add_131 : decode cX5_add 131 = .ok (.iastore, 1) := by decide +kernel
theorem dX5_add_132 : decode cX5_add 132 = .ok (.iinc 8 (-1), 3) := by decide +kernel
theorem dX5_add_135 : decode cX5_add 135 = .ok (.goto (-42), 3) := by decide +kernel
theorem dX5_add_138 : decode cX5_add 138 = .ok (.aload_n 0, 1) := by decide +kernel
theorem dX5_add_139 : decode cX5_add 139 = .ok (.getfield 27, 3) := by decide +kernel
theorem dX5_add_142 : decode cX5_add 142 = .ok (.iload 8, 2) := by decide +kernel
theorem dX5_add_144 : decode cX5_add 144 = .ok (.iload 7, 2) := by decide +kernel
theorem dX5_add_146 : decode cX5_add 146 = .ok (.iastore, 1) := by decide +kernel
theorem dX5_add_147 : decode cX5_add 147 = .ok (.aload_n 0, 1) := by decide +kernel
theorem dX5_add_148 : decode cX5_add 148 = .ok (.dup, 1) := by decide +kernel
theorem dX5_add_149 : decode cX5_add 149 = .ok (.getfield 30, 3) := by decide +kernel
theorem dX5_add_152 : decode cX5_add 152 = .ok (.iconst 1, 1) := by decide +kernel
theorem dX5_add_153 : decode cX5_add 153 = .ok (.iadd, 1) := by decide +kernel
theorem dX5_add_154 : decode cX5_add 154 = .ok (.putfield 30, 3) := by decide +kernel
theorem dX5_add_157 : decode cX5_add 157 = .ok (.aload_n 0, 1) := by decide +kernel
theorem dX5_add_158 : decode cX5_add 158 = .ok (.getfield 11, 3) := by decide +kernel
theorem dX5_add_161 : decode cX5_add 161 = .ok (.iload_n 1, 1) := by decide +kernel
theorem dX5_add_162 : decode cX5_add 162 = .ok (.dup2, 1) := by decide +kernel
theorem dX5_add_163 : decode cX5_add 163 = .ok (.iaload, 1) := by decide +kernel
theorem dX5_add_164 : decode cX5_add 164 = .ok (.iconst 1, 1) := by decide +kernel
theorem dX5_add_165 : decode cX5_add 165 = .ok (.iadd, 1) := by decide +kernel
theorem dX5_add_166 : decode cX5_add 166 = .ok (.iastore, 1) := by decide +kernel
theorem dX5_add_167 : decode cX5_add 167 = .ok (.iload 6, 2) := by decide +kernel
theorem dX5_add_169 : decode cX5_add 169 = .ok (.ireturn, 1) := by decide +kernel
set_option maxRecDepth 20000 in
theorem ggX5_isBefore_X5_kindIn : GoodIn wsX5_isBefore wsX5_kindIn := goodIn_r _ [5, 6] (by decide +kernel) (by decide +kernel)
set_option maxRecDepth 20000 in
theorem gX5_isBefore_X5_kindIn : GoodIn wsX5_isBefore (va_wsS RX5 50 yX5_kindIn wsX5_kindIn) := goodIn_app (goodIn_of _ (by decide +kernel)) ggX5_isBefore_X5_kindIn
theorem dX5_isBefore_0 : decode cX5_isBefore 0 = .ok (.aload_n 0, 1) := by decide +kernel
theorem dX5_isBefore_1 : decode cX5_isBefore 1 = .ok (.getfield 15, 3) := by decide +kernel
theorem dX5_isBefore_4 : decode cX5_isBefore 4 = .ok (.iload_n 1, 1) := by decide +kernel
theorem dX5_isBefore_5 : decode cX5_isBefore 5 = .ok (.iaload, 1) := by decide +kernel
theorem dX5_isBefore_6 : decode cX5_isBefore 6 = .ok (.aload_n 0, 1) := by decide +kernel
theorem dX5_isBefore_7 : decode cX5_isBefore 7 = .ok (.getfield 15, 3) := by decide +kernel
theorem dX5_isBefore_10 : decode cX5_isBefore 10 = .ok (.iload_n 2, 1) := by decide +kernel
theorem dX5_isBefore_11 : decode cX5_isBefore 11 = .ok (.iaload, 1) := by decide +kernel
theorem dX5_isBefore_12 : decode cX5_isBefore 12 = .ok (.if_icmp .eq 24, 3) := by decide +kernel
theorem dX5_isBefore_15 : decode cX5_isBefore 15 = .ok (.aload_n 0, 1) := by decide +kernel
theorem dX5_isBefore_16 : decode cX5_isBefore 16 = .ok (.getfield 15, 3) := by decide +kernel
theorem dX5_isBefore_19 : decode cX5_isBefore 19 = .ok (.iload_n 1, 1) := by decide +kernel
theorem dX5_isBefore_20 : decode cX5_isBefore 20 = .ok (.iaload, 1) := by decide +kernel
theorem dX5_isBefore_21 : decode cX5_isBefore 21 = .ok (.aload_n 0, 1) := by decide +kernel
theorem dX5_isBefore_22 : decode cX5_isBefore 22 = .ok (.getfield 15, 3) := by decide +kernel
theorem dX5_isBefore_25 : decode cX5_isBefore 25 = .ok (.iload_n 2, 1) := by decide +kernel
theorem dX5_isBefore_26 : decode cX5_isBefore 26 = .ok (.iaload, 1) := by decide +kernel
theorem dX5_isBefore_27 : decode cX5_isBefore 27 = .ok (.if_icmp .ge 7, 3) := by decide +kernel
theorem dX5_isBefore_30 : decode cX5_isBefore 30 = .ok (.iconst 1, 1) := by decide +kernel
theorem dX5_isBefore_31 : decode cX5_isBefore 31 = .ok (.goto 4, 3) := by decide +kernel
theorem dX5_isBefore_34 : decode cX5_isBefore 34 = .ok (.iconst 0, 1) := by decide +kernel
theorem dX5_isBefore_35 : decode cX5_isBefore 35 = .ok (.ireturn, 1) := by decide +kernel
theorem dX5_isBefore_36 : decode cX5_isBefore 36 = .ok (.iload_n 1, 1) := by decide +kernel
theorem dX5_isBefore_37 : decode cX5_isBefore 37 = .ok (.invokestatic 50, 3) := by decide +kernel
theorem dX5_isBefore_40 : decode cX5_isBefore 40 = .ok (.iload_n 2, 1) := by decide +kernel
theorem dX5_isBefore_41 : decode cX5_isBefore 41 = .ok (.invokestatic 50, 3) := by decide +kernel
theorem dX5_isBefore_44 : decode cX5_isBefore 44 = .ok (.if_icmp .ge 7, 3) := by decide +kernel
theorem dX5_isBefore_47 : decode cX5_isBefore 47 = .ok (.iconst 1, 1) := by decide +kernel
theorem dX5_isBefore_48 : decode cX5_isBefore 48 = .ok (.goto 4, 3) := by decide +kernel
theorem dX5_isBefore_51 : decode cX5_isBefore 51 = .ok (.iconst 0, 1) := by decide +kernel
theorem dX5_isBefore_52 : decode cX5_isBefore 52 = .ok (.ireturn, 1) := by decide +kernel
set_option maxRecDepth 20000 in
theorem ggX5_takeBack_X5_kindIn : GoodIn wsX5_takeBack wsX5_kindIn := goodIn_r _ [8, 4] (by decide +kernel) (by decide +kernel)
set_option maxRecDepth 20000 in
theorem gX5_takeBack_X5_kindIn : GoodIn wsX5_takeBack (va_wsS RX5 50 yX5_kindIn wsX5_kindIn) := goodIn_app (goodIn_of _ (by decide +kernel)) ggX5_takeBack_X5_kindIn
theorem dX5_takeBack_0 : decode cX5_takeBack 0 = .ok (.iload_n 1, 1) := by decide +kernel
theorem dX5_takeBack_1 : decode cX5_takeBack 1 = .ok (.ifCond .lt 22, 3) := by decide +kernel
theorem dX5_takeBack_4 : decode cX5_takeBack 4 = .ok (.iload_n 1, 1) := by decide +kernel
theorem dX5_takeBack_5 : decode cX5_takeBack 5 = .ok (.iconst 4, 1) := by decide +kernel
theorem dX5_takeBack_6 : decode cX5_takeBack 6 = .ok (.if_icmp .ge 17, 3) := by decide +kernel
theorem dX5_takeBack_9 : decode cX5_takeBack 9 = .ok (.iload_n 2, 1) := by decide +kernel
theorem dX5_takeBack_10 : decode cX5_takeBack 10 = .ok (.ifCond .lt 13, 3) := by decide +kernel
theorem dX5_takeBack_13 : decode cX5_takeBack 13 = .ok (.iload_n 2, 1) := by decide +kernel
theorem dX5_takeBack_14 : decode cX5_takeBack 14 = .ok (.aload_n 0, 1) := by decide +kernel
theorem dX5_takeBack_15 : decode cX5_takeBack 15 = .ok (.getfield 11, 3) := by decide +kernel
theorem dX5_takeBack_18 : decode cX5_takeBack 18 = .ok (.iload_n 1, 1) := by decide +kernel
theorem dX5_takeBack_19 : decode cX5_takeBack 19 = .ok (.iaload, 1) := by decide +kernel
theorem dX5_takeBack_20 : decode cX5_takeBack 20 = .ok (.if_icmp .le 6, 3) := by decide +kernel
theorem dX5_takeBack_23 : decode cX5_takeBack 23 = .ok (.bipush (-2), 2) := by decide +kernel
theorem dX5_takeBack_25 : decode cX5_takeBack 25 = .ok (.ireturn, 1) := by decide +kernel
theorem dX5_takeBack_26 : decode cX5_takeBack 26 = .ok (.aload_n 0, 1) := by decide +kernel
theorem dX5_takeBack_27 : decode cX5_takeBack 27 = .ok (.getfield 11, 3) := by decide +kernel
theorem dX5_takeBack_30 : decode cX5_takeBack 30 = .ok (.iload_n 1, 1) := by decide +kernel
theorem dX5_takeBack_31 : decode cX5_takeBack 31 = .ok (.iaload, 1) := by decide +kernel
theorem dX5_takeBack_32 : decode cX5_takeBack 32 = .ok (.iload_n 2, 1) := by decide +kernel
theorem dX5_takeBack_33 : decode cX5_takeBack 33 = .ok (.isub, 1) := by decide +kernel
theorem dX5_takeBack_34 : decode cX5_takeBack 34 = .ok (.istore_n 3, 1) := by decide +kernel
theorem dX5_takeBack_35 : decode cX5_takeBack 35 = .ok (.iconst 0, 1) := by decide +kernel
theorem dX5_takeBack_36 : decode cX5_takeBack 36 = .ok (.istore 4, 2) := by decide +kernel
theorem dX5_takeBack_38 : decode cX5_takeBack 38 = .ok (.iconst 0, 1) := by decide +kernel
theorem dX5_takeBack_39 : decode cX5_takeBack 39 = .ok (.istore 5, 2) := by decide +kernel
theorem dX5_takeBack_41 : decode cX5_takeBack 41 = .ok (.iload 5, 2) := by decide +kernel
theorem dX5_takeBack_43 : decode cX5_takeBack 43 = .ok (.aload_n 0, 1) := by decide +kernel
theorem dX5_takeBack_44 : decode cX5_takeBack 44 = .ok (.getfield 30, 3) := by decide +kernel
theorem dX5_takeBack_47 : decode cX5_takeBack 47 = .ok (.if_icmp .ge 51, 3) := by decide +kernel
theorem dX5_takeBack_50 : decode cX5_takeBack 50 = .ok (.aload_n 0, 1) := by decide +kernel
theorem dX5_takeBack_51 : decode cX5_takeBack 51 = .ok (.getfield 27, 3) := by decide +kernel
theorem dX5_takeBack_54 : decode cX5_takeBack 54 = .ok (.iload 5, 2) := by decide +kernel
theorem dX5_takeBack_56 : decode cX5_takeBack 56 = .ok (.iaload, 1) := by decide +kernel
theorem dX5_takeBack_57 : decode cX5_takeBack 57 = .ok (.istore 6, 2) := by decide +kernel
theorem dX5_takeBack_59 : decode cX5_takeBack 59 = .ok (.iload 6, 2) := by decide +kernel
theorem dX5_takeBack_61 : decode cX5_takeBack 61 = .ok (.invokestatic 50, 3) := by decide +kernel
theorem dX5_takeBack_64 : decode cX5_takeBack 64 = .ok (.iload_n 1, 1) := by decide +kernel
theorem dX5_takeBack_65 : decode cX5_takeBack 65 = .ok (.if_icmp .ne 15, 3) := by decide +kernel
theorem dX5_takeBack_68 : decode cX5_takeBack 68 = .ok (.iload 6, 2) := by decide +kernel
theorem dX5_takeBack_70 : decode cX5_takeBack 70 = .ok (.getstatic 43, 3) := by decide +kernel
theorem dX5_takeBack_73 : decode cX5_takeBack 73 = .ok (.iload_n 1, 1) := by decide +kernel
theorem dX5_takeBack_74 : decode cX5_takeBack 74 = .ok (.iaload, 1) := by decide +kernel
theorem dX5_takeBack_75 : decode cX5_takeBack 75 = .ok (.iload_n 3, 1) := by decide +kernel
theorem dX5_takeBack_76 : decode cX5_takeBack 76 = .ok (.iadd, 1) := by decide +kernel
theorem dX5_takeBack_77 : decode cX5_takeBack 77 = .ok (.if_icmp .ge 15, 3) := by decide +kernel
theorem dX5_takeBack_80 : decode cX5_takeBack 80 = .ok (.aload_n 0, 1) := by decide +kernel
theorem dX5_takeBack_81 : decode cX5_takeBack 81 = .ok (.getfield 27, 3) := by decide +kernel
theorem dX5_takeBack_84 : decode cX5_takeBack 84 = .ok (.iload 4, 2) := by decide +kernel
theorem dX5_takeBack_86 : decode cX5_takeBack 86 = .ok (.iload 6, 2) := by decide +kernel
theorem dX5_takeBack_88 : decode cX5_takeBack 88 = .ok (.iastore, 1) := by decide +kernel
theorem dX5_takeBack_89 : decode cX5_takeBack 89 = .ok (.iinc 4 1, 3) := by decide +kernel
theorem dX5_takeBack_92 : decode cX5_takeBack 92 = .ok (.iinc 5 1, 3) := by decide +kernel
theorem dX5_takeBack_95 : decode cX5_takeBack 95 = .ok (.goto (-54), 3) := by decide +kernel
theorem dX5_takeBack_98 : decode cX5_takeBack 98 = .ok (.aload_n 0, 1) := by decide +kernel
theorem dX5_takeBack_99 : decode cX5_takeBack 99 = .ok (.iload 4, 2) := by decide +kernel
theorem dX5_takeBack_101 : decode cX5_takeBack 101 = .ok (.putfield 30, 3) := by decide +kernel
theorem dX5_takeBack_104 : decode cX5_takeBack 104 = .ok (.aload_n 0, 1) := by decide +kernel
theorem dX5_takeBack_105 : decode cX5_takeBack 105 = .ok (.getfield 11, 3) := by decide +kernel
theorem dX5_takeBack_108 : decode cX5_takeBack 108 = .ok (.iload_n 1, 1) := by decide +kernel
theorem dX5_takeBack_109 : decode cX5_takeBack 109 = .ok (.iload_n 3, 1) := by decide +kernel
theorem dX5_takeBack_110 : decode cX5_takeBack 110 = .ok (.iastore, 1) := by decide +kernel
theorem dX5_takeBack_111 : decode cX5_takeBack 111 = .ok (.iload_n 3, 1) := by decide +kernel
theorem dX5_takeBack_112 : decode cX5_takeBack 112 = .ok (.ireturn, 1) := by decide +kernel
theorem dX5_kindIn_0 : decode cX5_kindIn 0 = .ok (.iload_n 0, 1) := by decide +kernel
theorem dX5_kindIn_1 : decode cX5_kindIn 1 = .ok (.getstatic 43, 3) := by decide +kernel
theorem dX5_kindIn_4 : decode cX5_kindIn 4 = .ok (.iconst 1, 1) := by decide +kernel
theorem dX5_kindIn_5 : decode cX5_kindIn 5 = .ok (.iaload, 1) := by decide +kernel
theorem dX5_kindIn_6 : decode cX5_kindIn 6 = .ok (.if_icmp .ge 5, 3) := by decide +kernel
theorem dX5_kindIn_9 : decode cX5_kindIn 9 = .ok (.iconst 0, 1) := by decide +kernel
theorem dX5_kindIn_10 : decode cX5_kindIn 10 = .ok (.ireturn, 1) := by decide +kernel
theorem dX5_kindIn_11 : decode cX5_kindIn 11 = .ok (.iload_n 0, 1) := by decide +kernel
theorem dX5_kindIn_12 : decode cX5_kindIn 12 = .ok (.getstatic 43, 3) := by decide +kernel
theorem dX5_kindIn_15 : decode cX5_kindIn 15 = .ok (.iconst 2, 1) := by decide +kernel
theorem dX5_kindIn_16 : decode cX5_kindIn 16 = .ok (.iaload, 1) := by decide +kernel
theorem dX5_kindIn_17 : decode cX5_kindIn 17 = .ok (.if_icmp .ge 5, 3) := by decide +kernel
theorem dX5_kindIn_20 : decode cX5_kindIn 20 = .ok (.iconst 1, 1) := by decide +kernel
theorem dX5_kindIn_21 : decode cX5_kindIn 21 = .ok (.ireturn, 1) := by decide +kernel
theorem dX5_kindIn_22 : decode cX5_kindIn 22 = .ok (.iload_n 0, 1) := by decide +kernel
theorem dX5_kindIn_23 : decode cX5_kindIn 23 = .ok (.getstatic 43, 3) := by decide +kernel
theorem dX5_kindIn_26 : decode cX5_kindIn 26 = .ok (.iconst 3, 1) := by decide +kernel
theorem dX5_kindIn_27 : decode cX5_kindIn 27 = .ok (.iaload, 1) := by decide +kernel
theorem dX5_kindIn_28 : decode cX5_kindIn 28 = .ok (.if_icmp .ge 7, 3) := by decide +kernel
theorem dX5_kindIn_31 : decode cX5_kindIn 31 = .ok (.iconst 2, 1) := by decide +kernel
theorem dX5_kindIn_32 : decode cX5_kindIn 32 = .ok (.goto 4, 3) := by decide +kernel
theorem dX5_kindIn_35 : decode cX5_kindIn 35 = .ok (.iconst 3, 1) := by decide +kernel
theorem dX5_kindIn_36 : decode cX5_kindIn 36 = .ok (.ireturn, 1) := by decide +kernel
theorem dX5_slotOf_0 : decode cX5_slotOf 0 = .ok (.iload_n 1, 1) := by decide +kernel
theorem dX5_slotOf_1 : decode cX5_slotOf 1 = .ok (.ifCond .lt 23, 3) := by decide +kernel
theorem dX5_slotOf_4 : decode cX5_slotOf 4 = .ok (.iload_n 1, 1) := by decide +kernel
theorem dX5_slotOf_5 : decode cX5_slotOf 5 = .ok (.aload_n 0, 1) := by decide +kernel
theorem dX5_slotOf_6 : decode cX5_slotOf 6 = .ok (.getfield 11, 3) := by decide +kernel
theorem dX5_slotOf_9 : decode cX5_slotOf 9 = .ok (.iconst 2, 1) := by decide +kernel
theorem dX5_slotOf_10 : decode cX5_slotOf 10 = .ok (.iaload, 1) := by decide +kernel
theorem dX5_slotOf_11 : decode cX5_slotOf 11 = .ok (.if_icmp .ge 13, 3) := by decide +kernel
theorem dX5_slotOf_14 : decode cX5_slotOf 14 = .ok (.getstatic 43, 3) := by decide +kernel
theorem dX5_slotOf_17 : decode cX5_slotOf 17 = .ok (.iconst 2, 1) := by decide +kernel
theorem dX5_slotOf_18 : decode cX5_slotOf 18 = .ok (.iaload, 1) := by decide +kernel
theorem dX5_slotOf_19 : decode cX5_slotOf 19 = .ok (.iload_n 1, 1) := by decide +kernel
theorem dX5_slotOf_20 : decode cX5_slotOf 20 = .ok (.iadd, 1) := by decide +kernel
theorem dX5_slotOf_21 : decode cX5_slotOf 21 = .ok (.goto 5, 3) := by decide +kernel
theorem dX5_slotOf_24 : decode cX5_slotOf 24 = .ok (.bipush (-9), 2) := by decide +kernel
theorem dX5_slotOf_26 : decode cX5_slotOf 26 = .ok (.ireturn, 1) := by decide +kernel
set_option maxRecDepth 20000 in
theorem ggX5_personOf_X5_slotOf : GoodIn wsX5_personOf wsX5_slotOf := goodIn_r _ [6, 7, 8, 9, 10, 11, 12, 13, 14, 15] (by decide +kernel) (by decide +kernel)
set_option maxRecDepth 20000 in
theorem gX5_personOf_X5_slotOf : GoodIn wsX5_personOf (wsV RX5 54 RX5 yX5_slotOf wsX5_slotOf) := goodIn_app (goodIn_of _ (by decide +kernel)) ggX5_personOf_X5_slotOf
theorem dX5_personOf_0 : decode cX5_personOf 0 = .ok (.aload_n 0, 1) := by decide +kernel
theorem dX5_personOf_1 : decode cX5_personOf 1 = .ok (.iload_n 1, 1) := by decide +kernel
theorem dX5_personOf_2 : decode cX5_personOf 2 = .ok (.invokevirtual 54, 3) := by decide +kernel
theorem dX5_personOf_5 : decode cX5_personOf 5 = .ok (.istore_n 2, 1) := by decide +kernel
theorem dX5_personOf_6 : decode cX5_personOf 6 = .ok (.iload_n 2, 1) := by decide +kernel
theorem dX5_personOf_7 : decode cX5_personOf 7 = .ok (.bipush (-9), 2) := by decide +kernel
theorem dX5_personOf_9 : decode cX5_personOf 9 = .ok (.if_icmp .ne 8, 3) := by decide +kernel
theorem dX5_personOf_12 : decode cX5_personOf 12 = .ok (.bipush (-9), 2) := by decide +kernel
theorem dX5_personOf_14 : decode cX5_personOf 14 = .ok (.goto 9, 3) := by decide +kernel
theorem dX5_personOf_17 : decode cX5_personOf 17 = .ok (.aload_n 0, 1) := by decide +kernel
theorem dX5_personOf_18 : decode cX5_personOf 18 = .ok (.getfield 21, 3) := by decide +kernel
theorem dX5_personOf_21 : decode cX5_personOf 21 = .ok (.iload_n 2, 1) := by decide +kernel
theorem dX5_personOf_22 : decode cX5_personOf 22 = .ok (.iaload, 1) := by decide +kernel
theorem dX5_personOf_23 : decode cX5_personOf 23 = .ok (.ireturn, 1) := by decide +kernel
set_option maxRecDepth 20000 in
theorem ggX5_placeOf_X5_slotOf : GoodIn wsX5_placeOf wsX5_slotOf := goodIn_r _ [6, 7, 8, 9, 10, 11, 12, 13, 14, 15] (by decide +kernel) (by decide +kernel)
set_option maxRecDepth 20000 in
theorem gX5_placeOf_X5_slotOf : GoodIn wsX5_placeOf (wsV RX5 54 RX5 yX5_slotOf wsX5_slotOf) := goodIn_app (goodIn_of _ (by decide +kernel)) ggX5_placeOf_X5_slotOf
theorem dX5_placeOf_0 : decode cX5_placeOf 0 = .ok (.aload_n 0, 1) := by decide +kernel
theorem dX5_placeOf_1 : decode cX5_placeOf 1 = .ok (.iload_n 1, 1) := by decide +kernel
theorem dX5_placeOf_2 : decode cX5_placeOf 2 = .ok (.invokevirtual 54, 3) := by decide +kernel
theorem dX5_placeOf_5 : decode cX5_placeOf 5 = .ok (.istore_n 2, 1) := by decide +kernel
theorem dX5_placeOf_6 : decode cX5_placeOf 6 = .ok (.iload_n 2, 1) := by decide +kernel
theorem dX5_placeOf_7 : decode cX5_placeOf 7 = .ok (.bipush (-9), 2) := by decide +kernel
theorem dX5_placeOf_9 : decode cX5_placeOf 9 = .ok (.if_icmp .ne 8, 3) := by decide +kernel
theorem dX5_placeOf_12 : decode cX5_placeOf 12 = .ok (.bipush (-9), 2) := by decide +kernel
theorem dX5_placeOf_14 : decode cX5_placeOf 14 = .ok (.goto 9, 3) := by decide +kernel
theorem dX5_placeOf_17 : decode cX5_placeOf 17 = .ok (.aload_n 0, 1) := by decide +kernel
theorem dX5_placeOf_18 : decode cX5_placeOf 18 = .ok (.getfield 18, 3) := by decide +kernel
theorem dX5_placeOf_21 : decode cX5_placeOf 21 = .ok (.iload_n 2, 1) := by decide +kernel
theorem dX5_placeOf_22 : decode cX5_placeOf 22 = .ok (.iaload, 1) := by decide +kernel
theorem dX5_placeOf_23 : decode cX5_placeOf 23 = .ok (.ireturn, 1) := by decide +kernel
set_option maxRecDepth 20000 in
theorem ggX5_nightOf_X5_slotOf : GoodIn wsX5_nightOf wsX5_slotOf := goodIn_r _ [6, 7, 8, 9, 10, 11, 12, 13, 14, 15] (by decide +kernel) (by decide +kernel)
set_option maxRecDepth 20000 in
theorem gX5_nightOf_X5_slotOf : GoodIn wsX5_nightOf (wsV RX5 54 RX5 yX5_slotOf wsX5_slotOf) := goodIn_app (goodIn_of _ (by decide +kernel)) ggX5_nightOf_X5_slotOf
theorem dX5_nightOf_0 : decode cX5_nightOf 0 = .ok (.aload_n 0, 1) := by decide +kernel
theorem dX5_nightOf_1 : decode cX5_nightOf 1 = .ok (.iload_n 1, 1) := by decide +kernel
theorem dX5_nightOf_2 : decode cX5_nightOf 2 = .ok (.invokevirtual 54, 3) := by decide +kernel
theorem dX5_nightOf_5 : decode cX5_nightOf 5 = .ok (.istore_n 2, 1) := by decide +kernel
theorem dX5_nightOf_6 : decode cX5_nightOf 6 = .ok (.iload_n 2, 1) := by decide +kernel
theorem dX5_nightOf_7 : decode cX5_nightOf 7 = .ok (.bipush (-9), 2) := by decide +kernel
theorem dX5_nightOf_9 : decode cX5_nightOf 9 = .ok (.if_icmp .ne 8, 3) := by decide +kernel
theorem dX5_nightOf_12 : decode cX5_nightOf 12 = .ok (.bipush (-9), 2) := by decide +kernel
theorem dX5_nightOf_14 : decode cX5_nightOf 14 = .ok (.goto 9, 3) := by decide +kernel
theorem dX5_nightOf_17 : decode cX5_nightOf 17 = .ok (.aload_n 0, 1) := by decide +kernel
theorem dX5_nightOf_18 : decode cX5_nightOf 18 = .ok (.getfield 15, 3) := by decide +kernel
theorem dX5_nightOf_21 : decode cX5_nightOf 21 = .ok (.iload_n 2, 1) := by decide +kernel
theorem dX5_nightOf_22 : decode cX5_nightOf 22 = .ok (.iaload, 1) := by decide +kernel
theorem dX5_nightOf_23 : decode cX5_nightOf 23 = .ok (.ireturn, 1) := by decide +kernel
set_option maxRecDepth 20000 in
theorem ggX5_gumOf_X5_slotOf : GoodIn wsX5_gumOf wsX5_slotOf := goodIn_r _ [6, 7, 8, 9, 10, 11, 12, 13, 14, 15] (by decide +kernel) (by decide +kernel)
set_option maxRecDepth 20000 in
theorem gX5_gumOf_X5_slotOf : GoodIn wsX5_gumOf (wsV RX5 54 RX5 yX5_slotOf wsX5_slotOf) := goodIn_app (goodIn_of _ (by decide +kernel)) ggX5_gumOf_X5_slotOf
theorem dX5_gumOf_0 : decode cX5_gumOf 0 = .ok (.aload_n 0, 1) := by decide +kernel
theorem dX5_gumOf_1 : decode cX5_gumOf 1 = .ok (.iload_n 1, 1) := by decide +kernel
theorem dX5_gumOf_2 : decode cX5_gumOf 2 = .ok (.invokevirtual 54, 3) := by decide +kernel
theorem dX5_gumOf_5 : decode cX5_gumOf 5 = .ok (.istore_n 2, 1) := by decide +kernel
theorem dX5_gumOf_6 : decode cX5_gumOf 6 = .ok (.iload_n 2, 1) := by decide +kernel
theorem dX5_gumOf_7 : decode cX5_gumOf 7 = .ok (.bipush (-9), 2) := by decide +kernel
theorem dX5_gumOf_9 : decode cX5_gumOf 9 = .ok (.if_icmp .ne 8, 3) := by decide +kernel
theorem dX5_gumOf_12 : decode cX5_gumOf 12 = .ok (.bipush (-9), 2) := by decide +kernel
theorem dX5_gumOf_14 : decode cX5_gumOf 14 = .ok (.goto 9, 3) := by decide +kernel
theorem dX5_gumOf_17 : decode cX5_gumOf 17 = .ok (.aload_n 0, 1) := by decide +kernel
theorem dX5_gumOf_18 : decode cX5_gumOf 18 = .ok (.getfield 24, 3) := by decide +kernel
theorem dX5_gumOf_21 : decode cX5_gumOf 21 = .ok (.iload_n 2, 1) := by decide +kernel
theorem dX5_gumOf_22 : decode cX5_gumOf 22 = .ok (.iaload, 1) := by decide +kernel
theorem dX5_gumOf_23 : decode cX5_gumOf 23 = .ok (.ireturn, 1) := by decide +kernel
set_option maxRecDepth 20000 in
theorem ggX5_playTo_X1_reset : GoodIn wsX5_playTo wsX1_reset := goodIn_r _ [8, 9, 10, 46, 47, 48] (by decide +kernel) (by decide +kernel)
set_option maxRecDepth 20000 in
theorem gX5_playTo_X1_reset : GoodIn wsX5_playTo (wsV RX5 57 RX1 yX1_reset wsX1_reset) := goodIn_app (goodIn_of _ (by decide +kernel)) ggX5_playTo_X1_reset
set_option maxRecDepth 20000 in
theorem ggX5_playTo_X5_happen : GoodIn wsX5_playTo wsX5_happen := goodIn_r _ [15, 16, 17, 18, 19, 20, 14, 21, 22, 23, 24, 7, 25, 10, 26, 27, 28, 29, 9, 30, 31, 32, 33, 34, 35, 36, 37, 38, 39, 40, 41, 42, 43, 44, 45, 46, 47, 48] (by decide +kernel) (by decide +kernel)
set_option maxRecDepth 20000 in
theorem gX5_playTo_X5_happen : GoodIn wsX5_playTo (wsV RX5 62 RX5 yX5_happen wsX5_happen) := goodIn_app (goodIn_of _ (by decide +kernel)) ggX5_playTo_X5_happen
theorem dX5_playTo_0 : decode cX5_playTo 0 = .ok (.aload_n 2, 1) := by decide +kernel
theorem dX5_playTo_1 : decode cX5_playTo 1 = .ok (.invokevirtual 57, 3) := by decide +kernel
theorem dX5_playTo_4 : decode cX5_playTo 4 = .ok (.iconst 0, 1) := by decide +kernel
theorem dX5_playTo_5 : decode cX5_playTo 5 = .ok (.istore_n 3, 1) := by decide +kernel
theorem dX5_playTo_6 : decode cX5_playTo 6 = .ok (.iload_n 3, 1) := by decide +kernel
theorem dX5_playTo_7 : decode cX5_playTo 7 = .ok (.aload_n 0, 1) := by decide +kernel
theorem dX5_playTo_8 : decode cX5_playTo 8 = .ok (.getfield 30, 3) := by decide +kernel
theorem dX5_playTo_11 : decode cX5_playTo 11 = .ok (.if_icmp .ge 35, 3) := by decide +kernel
theorem dX5_playTo_14 : decode cX5_playTo 14 = .ok (.aload_n 0, 1) := by decide +kernel
theorem dX5_playTo_15 : decode cX5_playTo 15 = .ok (.getfield 15, 3) := by decide +kernel
theorem dX5_playTo_18 : decode cX5_playTo 18 = .ok (.aload_n 0, 1) := by decide +kernel
theorem dX5_playTo_19 : decode cX5_playTo 19 = .ok (.getfield 27, 3) := by decide +kernel
theorem dX5_playTo_22 : decode cX5_playTo 22 = .ok (.iload_n 3, 1) := by decide +kernel
theorem dX5_playTo_23 : decode cX5_playTo 23 = .ok (.iaload, 1) := by decide +kernel
theorem dX5_playTo_24 : decode cX5_playTo 24 = .ok (.iaload, 1) := by decide +kernel
theorem dX5_playTo_25 : decode cX5_playTo 25 = .ok (.iload_n 1, 1) := by decide +kernel
theorem dX5_playTo_26 : decode cX5_playTo 26 = .ok (.if_icmp .gt 20, 3) := by decide +kernel
theorem dX5_playTo_29 : decode cX5_playTo 29 = .ok (.aload_n 0, 1) := by decide +kernel
theorem dX5_playTo_30 : decode cX5_playTo 30 = .ok (.aload_n 0, 1) := by decide +kernel
theorem dX5_playTo_31 : decode cX5_playTo 31 = .ok (.getfield 27, 3) := by decide +kernel
theorem dX5_playTo_34 : decode cX5_playTo 34 = .ok (.iload_n 3, 1) := by decide +kernel
theorem dX5_playTo_35 : decode cX5_playTo 35 = .ok (.iaload, 1) := by decide +kernel
theorem dX5_playTo_36 : decode cX5_playTo 36 = .ok (.aload_n 2, 1) := by decide +kernel
theorem dX5_playTo_37 : decode cX5_playTo 37 = .ok (.invokevirtual 62, 3) := by decide +kernel
