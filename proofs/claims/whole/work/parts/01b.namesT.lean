set_option maxRecDepth 20000 in
theorem ggX7_init_X4_init : GoodIn wsX7_init wsX4_init := goodIn_r _ [32, 33, 2, 3, 24, 34, 35, 70, 71] (by decide +kernel) (by decide +kernel)
set_option maxRecDepth 20000 in
theorem gX7_init_X4_init_n9 : GoodIn wsX7_init (wsX4_init) := ggX7_init_X4_init
set_option maxRecDepth 20000 in
theorem ggX7_init_X5_init : GoodIn wsX7_init wsX5_init := goodIn_r _ [38, 39, 2, 3, 24, 40, 41, 42, 43, 44, 45, 46, 85, 86, 87] (by decide +kernel) (by decide +kernel)
set_option maxRecDepth 20000 in
theorem gX7_init_X5_init : GoodIn wsX7_init (wsX5_init) := ggX7_init_X5_init
set_option maxRecDepth 20000 in
theorem ggX7_init_X2_init : GoodIn wsX7_init wsX2_init := goodIn_r _ [48, 49, 2, 3, 50, 51, 52, 53, 54, 20, 21, 55, 56, 57, 58, 59, 60, 61, 62, 63, 24, 64, 65, 66, 67, 68, 69, 88, 89, 90, 91, 92, 93, 94, 95] (by decide +kernel) (by decide +kernel)
set_option maxRecDepth 20000 in
theorem gX7_init_X2_init_n25 : GoodIn wsX7_init (wsX2_init) := ggX7_init_X2_init
set_option maxRecDepth 20000 in
theorem ggX7_init_X1_init : GoodIn wsX7_init wsX1_init := goodIn_r _ [62, 63, 2, 3, 24, 64, 65, 93, 94] (by decide +kernel) (by decide +kernel)
set_option maxRecDepth 20000 in
theorem gX7_init_X1_init_n41 : GoodIn wsX7_init (wsX1_init) := ggX7_init_X1_init
theorem dX7_init_0 : decode cX7_init 0 = .ok (.aload_n 0, 1) := by decide +kernel
theorem dX7_init_1 : decode cX7_init 1 = .ok (.invokespecial 1, 3) := by decide +kernel
theorem dX7_init_4 : decode cX7_init 4 = .ok (.aload_n 0, 1) := by decide +kernel
theorem dX7_init_5 : decode cX7_init 5 = .ok (.new 7, 3) := by decide +kernel
theorem dX7_init_8 : decode cX7_init 8 = .ok (.dup, 1) := by decide +kernel
theorem dX7_init_9 : decode cX7_init 9 = .ok (.invokespecial 9, 3) := by decide +kernel
theorem dX7_init_12 : decode cX7_init 12 = .ok (.putfield 10, 3) := by decide +kernel
theorem dX7_init_15 : decode cX7_init 15 = .ok (.aload_n 0, 1) := by decide +kernel
theorem dX7_init_16 : decode cX7_init 16 = .ok (.new 16, 3) := by decide +kernel
theorem dX7_init_19 : decode cX7_init 19 = .ok (.dup, 1) := by decide +kernel
theorem dX7_init_20 : decode cX7_init 20 = .ok (.invokespecial 18, 3) := by decide +kernel
theorem dX7_init_23 : decode cX7_init 23 = .ok (.putfield 19, 3) := by decide +kernel
theorem dX7_init_26 : decode cX7_init 26 = .ok (.aload_n 0, 1) := by decide +kernel
theorem dX7_init_27 : decode cX7_init 27 = .ok (.new 23, 3) := by decide +kernel
theorem dX7_init_30 : decode cX7_init 30 = .ok (.dup, 1) := by decide +kernel
theorem dX7_init_31 : decode cX7_init 31 = .ok (.invokespecial 25, 3) := by decide +kernel
theorem dX7_init_34 : decode cX7_init 34 = .ok (.putfield 26, 3) := by decide +kernel
theorem dX7_init_37 : decode cX7_init 37 = .ok (.aload_n 0, 1) := by decide +kernel
theorem dX7_init_38 : decode cX7_init 38 = .ok (.bipush 60, 2) := by decide +kernel
theorem dX7_init_40 : decode cX7_init 40 = .ok (.anewarray 30, 3) := by decide +kernel
theorem dX7_init_43 : decode cX7_init 43 = .ok (.putfield 32, 3) := by decide +kernel
theorem dX7_init_46 : decode cX7_init 46 = .ok (.aload_n 0, 1) := by decide +kernel
theorem dX7_init_47 : decode cX7_init 47 = .ok (.iconst 4, 1) := by decide +kernel
theorem dX7_init_48 : decode cX7_init 48 = .ok (.anewarray 30, 3) := by decide +kernel
theorem dX7_init_51 : decode cX7_init 51 = .ok (.putfield 36, 3) := by decide +kernel
theorem dX7_init_54 : decode cX7_init 54 = .ok (.aload_n 0, 1) := by decide +kernel
theorem dX7_init_55 : decode cX7_init 55 = .ok (.new 39, 3) := by decide +kernel
theorem dX7_init_58 : decode cX7_init 58 = .ok (.dup, 1) := by decide +kernel
theorem dX7_init_59 : decode cX7_init 59 = .ok (.invokespecial 41, 3) := by decide +kernel
theorem dX7_init_62 : decode cX7_init 62 = .ok (.putfield 42, 3) := by decide +kernel
theorem dX7_init_65 : decode cX7_init 65 = .ok (.aload_n 0, 1) := by decide +kernel
theorem dX7_init_66 : decode cX7_init 66 = .ok (.new 39, 3) := by decide +kernel
theorem dX7_init_69 : decode cX7_init 69 = .ok (.dup, 1) := by decide +kernel
theorem dX7_init_70 : decode cX7_init 70 = .ok (.invokespecial 41, 3) := by decide +kernel
theorem dX7_init_73 : decode cX7_init 73 = .ok (.putfield 46, 3) := by decide +kernel
theorem dX7_init_76 : decode cX7_init 76 = .ok (.aload_n 0, 1) := by decide +kernel
theorem dX7_init_77 : decode cX7_init 77 = .ok (.iconst 4, 1) := by decide +kernel
theorem dX7_init_78 : decode cX7_init 78 = .ok (.newarray .int, 2) := by decide +kernel
theorem dX7_init_80 : decode cX7_init 80 = .ok (.putfield 49, 3) := by decide +kernel
theorem dX7_init_83 : decode cX7_init 83 = .ok (.aload_n 0, 1) := by decide +kernel
theorem dX7_init_84 : decode cX7_init 84 = .ok (.iconst 4, 1) := by decide +kernel
theorem dX7_init_85 : decode cX7_init 85 = .ok (.newarray .int, 2) := by decide +kernel
theorem dX7_init_87 : decode cX7_init 87 = .ok (.putfield 53, 3) := by decide +kernel
theorem dX7_init_90 : decode cX7_init 90 = .ok (.aload_n 0, 1) := by decide +kernel
theorem dX7_init_91 : decode cX7_init 91 = .ok (.iconst 0, 1) := by decide +kernel
theorem dX7_init_92 : decode cX7_init 92 = .ok (.putfield 56, 3) := by decide +kernel
theorem dX7_init_95 : decode cX7_init 95 = .ok (.aload_n 0, 1) := by decide +kernel
theorem dX7_init_96 : decode cX7_init 96 = .ok (.bipush 50, 2) := by decide +kernel
theorem dX7_init_98 : decode cX7_init 98 = .ok (.putfield 60, 3) := by decide +kernel
theorem dX7_init_101 : decode cX7_init 101 = .ok (.aload_n 0, 1) := by decide +kernel
theorem dX7_init_102 : decode cX7_init 102 = .ok (.bipush 10, 2) := by decide +kernel
theorem dX7_init_104 : decode cX7_init 104 = .ok (.putfield 63, 3) := by decide +kernel
theorem dX7_init_107 : decode cX7_init 107 = .ok (.aload_n 0, 1) := by decide +kernel
theorem dX7_init_108 : decode cX7_init 108 = .ok (.bipush 6, 2) := by decide +kernel
theorem dX7_init_110 : decode cX7_init 110 = .ok (.putfield 66, 3) := by decide +kernel
theorem dX7_init_113 : decode cX7_init 113 = .ok (.return_, 1) := by decide +kernel
set_option maxRecDepth 20000 in
theorem ggX7_word_X4_append : GoodIn wsX7_word wsX4_append := goodIn_r _ [10, 11, 12, 26, 27] (by decide +kernel) (by decide +kernel)
set_option maxRecDepth 20000 in
theorem gX7_word_X4_append : GoodIn wsX7_word (wsV RX7 78 RX4 yX4_append wsX4_append) := goodIn_app (goodIn_of _ (by decide +kernel)) ggX7_word_X4_append
theorem dX7_word_0 : decode cX7_word 0 = .ok (.iload_n 1, 1) := by decide +kernel
theorem dX7_word_1 : decode cX7_word 1 = .ok (.ifCond .lt 9, 3) := by decide +kernel
theorem dX7_word_4 : decode cX7_word 4 = .ok (.iload_n 1, 1) := by decide +kernel
theorem dX7_word_5 : decode cX7_word 5 = .ok (.bipush 50, 2) := by decide +kernel
theorem dX7_word_7 : decode cX7_word 7 = .ok (.if_icmp .lt 11, 3) := by decide +kernel
theorem dX7_word_10 : decode cX7_word 10 = .ok (.new 69, 3) := by decide +kernel
theorem dX7_word_13 : decode cX7_word 13 = .ok (.dup, 1) := by decide +kernel
theorem dX7_word_14 : decode cX7_word 14 = .ok (.invokespecial 71, 3) := by decide +kernel
theorem dX7_word_17 : decode cX7_word 17 = .ok (.athrow, 1) := by decide +kernel
theorem dX7_word_18 : decode cX7_word 18 = .ok (.aload_n 0, 1) := by decide +kernel
theorem dX7_word_19 : decode cX7_word 19 = .ok (.getfield 10, 3) := by decide +kernel
theorem dX7_word_22 : decode cX7_word 22 = .ok (.getfield 72, 3) := by decide +kernel
theorem dX7_word_25 : decode cX7_word 25 = .ok (.bipush 8, 2) := by decide +kernel
theorem dX7_word_27 : decode cX7_word 27 = .ok (.if_icmp .lt 11, 3) := by decide +kernel
theorem dX7_word_30 : decode cX7_word 30 = .ok (.new 75, 3) := by decide +kernel
theorem dX7_word_33 : decode cX7_word 33 = .ok (.dup, 1) := by decide +kernel
theorem dX7_word_34 : decode cX7_word 34 = .ok (.invokespecial 77, 3) := by decide +kernel
theorem dX7_word_37 : decode cX7_word 37 = .ok (.athrow, 1) := by decide +kernel
theorem dX7_word_38 : decode cX7_word 38 = .ok (.aload_n 0, 1) := by decide +kernel
theorem dX7_word_39 : decode cX7_word 39 = .ok (.getfield 10, 3) := by decide +kernel
theorem dX7_word_42 : decode cX7_word 42 = .ok (.iload_n 1, 1) := by decide +kernel
theorem dX7_word_43 : decode cX7_word 43 = .ok (.invokevirtual 78, 3) := by decide +kernel
theorem dX7_word_46 : decode cX7_word 46 = .ok (.aload_n 0, 1) := by decide +kernel
theorem dX7_word_47 : decode cX7_word 47 = .ok (.getfield 10, 3) := by decide +kernel
theorem dX7_word_50 : decode cX7_word 50 = .ok (.getfield 72, 3) := by decide +kernel
theorem dX7_word_53 : decode cX7_word 53 = .ok (.ireturn, 1) := by decide +kernel
theorem dX7_clear_0 : decode cX7_clear 0 = .ok (.aload_n 0, 1) := by decide +kernel
theorem dX7_clear_1 : decode cX7_clear 1 = .ok (.getfield 10, 3) := by decide +kernel
theorem dX7_clear_4 : decode cX7_clear 4 = .ok (.getfield 72, 3) := by decide +kernel
theorem dX7_clear_7 : decode cX7_clear 7 = .ok (.istore_n 1, 1) := by decide +kernel
theorem dX7_clear_8 : decode cX7_clear 8 = .ok (.aload_n 0, 1) := by decide +kernel
theorem dX7_clear_9 : decode cX7_clear 9 = .ok (.getfield 10, 3) := by decide +kernel
theorem dX7_clear_12 : decode cX7_clear 12 = .ok (.iconst 0, 1) := by decide +kernel
theorem dX7_clear_13 : decode cX7_clear 13 = .ok (.putfield 72, 3) := by decide +kernel
theorem dX7_clear_16 : decode cX7_clear 16 = .ok (.iload_n 1, 1) := by decide +kernel
theorem dX7_clear_17 : decode cX7_clear 17 = .ok (.ireturn, 1) := by decide +kernel
set_option maxRecDepth 20000 in
theorem ggX7_likeness_X7_soldSentence : GoodIn wsX7_likeness wsX7_soldSentence := goodIn_ca (goodIn_r _ [7, 8, 9, 1, 10, 11, 12, 13, 14, 15, 58, 59, 60, 61, 62, 63, 64, 65, 66, 67, 68, 69, 70, 71, 72, 73, 74, 75] (by decide +kernel) (by decide +kernel)) (goodIn_sub (fun _ h => List.mem_cons_of_mem _ (List.mem_append_left _ (List.mem_append_right _ h))) (by decide +kernel))
set_option maxRecDepth 20000 in
theorem gX7_likeness_X7_soldSentence : GoodIn wsX7_likeness (wsV RX7 82 RX7 yX7_soldSentence wsX7_soldSentence) := goodIn_app (goodIn_of _ (by decide +kernel)) ggX7_likeness_X7_soldSentence
set_option maxRecDepth 20000 in
theorem ggX7_likeness_X7_refuseEmptyDraft : GoodIn wsX7_likeness wsX7_refuseEmptyDraft := goodIn_ca (goodIn_r _ [19, 20, 21, 2, 58, 59, 60, 61, 62, 63, 64, 65, 66, 67, 68, 69, 70, 79, 80] (by decide +kernel) (by decide +kernel)) (goodIn_sub (fun _ h => List.mem_cons_of_mem _ (List.mem_append_right _ h)) (by decide +kernel))
set_option maxRecDepth 20000 in
theorem gX7_likeness_X7_refuseEmptyDraft : GoodIn wsX7_likeness (wsV RX7 86 RX7 yX7_refuseEmptyDraft wsX7_refuseEmptyDraft) := goodIn_app (goodIn_of _ (by decide +kernel)) ggX7_likeness_X7_refuseEmptyDraft
set_option maxRecDepth 20000 in
theorem ggX7_likeness_X0_likenessOf : GoodIn wsX7_likeness wsX0_likenessOf := goodIn_r _ [26, 27, 28, 29, 30, 31, 32, 33, 25, 34, 35, 36, 37, 38, 39, 40, 41, 42, 43, 44, 45, 46, 47, 48, 49, 50, 51, 52, 53, 54, 55, 56, 57, 79, 80, 81] (by decide +kernel) (by decide +kernel)
set_option maxRecDepth 20000 in
theorem gX7_likeness_X0_likenessOf : GoodIn wsX7_likeness (wsV RX7 98 RX0 yX0_likenessOf wsX0_likenessOf) := goodIn_app (goodIn_of _ (by decide +kernel)) ggX7_likeness_X0_likenessOf
theorem dX7_likeness_0 : decode cX7_likeness 0 = .ok (.aload_n 0, 1) := by decide +kernel
theorem dX7_likeness_1 : decode cX7_likeness 1 = .ok (.iload_n 1, 1) := by decide +kernel
theorem dX7_likeness_2 : decode cX7_likeness 2 = .ok (.invokevirtual 82, 3) := by decide +kernel
theorem dX7_likeness_5 : decode cX7_likeness 5 = .ok (.astore_n 2, 1) := by decide +kernel
theorem dX7_likeness_6 : decode cX7_likeness 6 = .ok (.aload_n 0, 1) := by decide +kernel
theorem dX7_likeness_7 : decode cX7_likeness 7 = .ok (.invokevirtual 86, 3) := by decide +kernel
theorem dX7_likeness_10 : decode cX7_likeness 10 = .ok (.aload_n 0, 1) := by decide +kernel
theorem dX7_likeness_11 : decode cX7_likeness 11 = .ok (.getfield 26, 3) := by decide +kernel
theorem dX7_likeness_14 : decode cX7_likeness 14 = .ok (.getfield 89, 3) := by decide +kernel
theorem dX7_likeness_17 : decode cX7_likeness 17 = .ok (.aload_n 0, 1) := by decide +kernel
theorem dX7_likeness_18 : decode cX7_likeness 18 = .ok (.getfield 10, 3) := by decide +kernel
theorem dX7_likeness_21 : decode cX7_likeness 21 = .ok (.aload_n 2, 1) := by decide +kernel
theorem dX7_likeness_22 : decode cX7_likeness 22 = .ok (.getfield 93, 3) := by decide +kernel
theorem dX7_likeness_25 : decode cX7_likeness 25 = .ok (.invokevirtual 98, 3) := by decide +kernel
theorem dX7_likeness_28 : decode cX7_likeness 28 = .ok (.ireturn, 1) := by decide +kernel
set_option maxRecDepth 20000 in
theorem ggX7_best_X7_refuseUnlessClient : GoodIn wsX7_best wsX7_refuseUnlessClient := goodIn_ca (goodIn_r _ [5, 6, 7] (by decide +kernel) (by decide +kernel)) (goodIn_sub (fun _ h => List.mem_cons_of_mem _ (List.mem_append_left _ (List.mem_append_right _ h))) (by decide +kernel))
set_option maxRecDepth 20000 in
theorem gX7_best_X7_refuseUnlessClient : GoodIn wsX7_best (va_wsS RX7 104 yX7_refuseUnlessClient wsX7_refuseUnlessClient) := goodIn_app (goodIn_of _ (by decide +kernel)) ggX7_best_X7_refuseUnlessClient
set_option maxRecDepth 20000 in
theorem ggX7_best_X7_refuseEmptyDraft : GoodIn wsX7_best wsX7_refuseEmptyDraft := goodIn_ca (goodIn_r _ [11, 12, 13, 1, 90, 91, 92, 93, 94, 95, 96, 97, 98, 99, 100, 101, 102, 103, 104] (by decide +kernel) (by decide +kernel)) (goodIn_sub (fun _ h => List.mem_cons_of_mem _ (List.mem_append_right _ h)) (by decide +kernel))
set_option maxRecDepth 20000 in
theorem gX7_best_X7_refuseEmptyDraft : GoodIn wsX7_best (wsV RX7 86 RX7 yX7_refuseEmptyDraft wsX7_refuseEmptyDraft) := goodIn_app (goodIn_of _ (by decide +kernel)) ggX7_best_X7_refuseEmptyDraft
set_option maxRecDepth 20000 in
theorem ggX7_best_X7_bestFor : GoodIn wsX7_best wsX7_bestFor := goodIn_r _ [17, 18, 19, 20, 21, 22, 23, 24, 25, 26, 27, 28, 29, 30, 31, 32, 33, 34, 35, 36, 37, 38, 39, 40, 41, 42, 43, 44, 45, 46, 47, 48, 49, 50, 51, 52, 53, 54, 55, 56, 57, 58, 59, 60, 61, 62, 63, 64, 65, 66, 67, 68, 69, 70, 71, 72, 73, 74, 75, 76, 77, 78, 79, 80, 81, 82, 83, 84, 85, 86, 87, 88, 89, 90, 91, 92, 93, 94, 95, 96, 97, 98, 99, 100, 101, 102, 103, 104, 105, 106, 107, 108, 109, 110, 111, 112, 113, 114, 115] (by decide +kernel) (by decide +kernel)
set_option maxRecDepth 20000 in
theorem gX7_best_X7_bestFor : GoodIn wsX7_best (wsV RX7 107 RX7 yX7_bestFor wsX7_bestFor) := goodIn_app (goodIn_of _ (by decide +kernel)) ggX7_best_X7_bestFor
theorem dX7_best_0 : decode cX7_best 0 = .ok (.iload_n 1, 1) := by decide +kernel
theorem dX7_best_1 : decode cX7_best 1 = .ok (.invokestatic 104, 3) := by decide +kernel
theorem dX7_best_4 : decode cX7_best 4 = .ok (.aload_n 0, 1) := by decide +kernel
theorem dX7_best_5 : decode cX7_best 5 = .ok (.invokevirtual 86, 3) := by decide +kernel
theorem dX7_best_8 : decode cX7_best 8 = .ok (.aload_n 0, 1) := by decide +kernel
theorem dX7_best_9 : decode cX7_best 9 = .ok (.iload_n 1, 1) := by decide +kernel
theorem dX7_best_10 : decode cX7_best 10 = .ok (.aload_n 0, 1) := by decide +kernel
theorem dX7_best_11 : decode cX7_best 11 = .ok (.getfield 10, 3) := by decide +kernel
theorem dX7_best_14 : decode cX7_best 14 = .ok (.invokevirtual 107, 3) := by decide +kernel
theorem dX7_best_17 : decode cX7_best 17 = .ok (.ireturn, 1) := by decide +kernel
set_option maxRecDepth 20000 in
theorem ggX7_bestByAll_X7_refuseUnlessClient : GoodIn wsX7_bestByAll wsX7_refuseUnlessClient := goodIn_ca (goodIn_r _ [8, 9, 10] (by decide +kernel) (by decide +kernel)) (goodIn_sub (fun _ h => List.mem_cons_of_mem _ (List.mem_append_left _ (List.mem_append_right _ h))) (by decide +kernel))
set_option maxRecDepth 20000 in
theorem gX7_bestByAll_X7_refuseUnlessClient : GoodIn wsX7_bestByAll (va_wsS RX7 104 yX7_refuseUnlessClient wsX7_refuseUnlessClient) := goodIn_app (goodIn_of _ (by decide +kernel)) ggX7_bestByAll_X7_refuseUnlessClient
set_option maxRecDepth 20000 in
theorem ggX7_bestByAll_X7_refuseEmptyDraft : GoodIn wsX7_bestByAll wsX7_refuseEmptyDraft := goodIn_ca (goodIn_r _ [14, 15, 16, 3, 81, 82, 83, 84, 85, 86, 87, 88, 89, 90, 91, 92, 93, 94, 95] (by decide +kernel) (by decide +kernel)) (goodIn_sub (fun _ h => List.mem_cons_of_mem _ (List.mem_append_right _ h)) (by decide +kernel))
set_option maxRecDepth 20000 in
theorem gX7_bestByAll_X7_refuseEmptyDraft : GoodIn wsX7_bestByAll (wsV RX7 86 RX7 yX7_refuseEmptyDraft wsX7_refuseEmptyDraft) := goodIn_app (goodIn_of _ (by decide +kernel)) ggX7_bestByAll_X7_refuseEmptyDraft
set_option maxRecDepth 20000 in
theorem ggX7_bestByAll_X2_bestAmong : GoodIn wsX7_bestByAll wsX2_bestAmong := goodIn_r _ [21, 22, 23, 24, 25, 26, 27, 20, 28, 29, 30, 31, 32, 33, 34, 35, 36, 37, 38, 39, 40, 41, 42, 43, 44, 45, 46, 47, 48, 49, 50, 51, 52, 53, 54, 55, 56, 57, 58, 59, 60, 61, 62, 63, 64, 65, 66, 67, 68, 69, 70, 71, 72, 73, 74, 75, 76, 77, 78, 79, 80, 96, 97, 98, 99, 100, 101, 102, 103, 104, 105, 94, 95, 106] (by decide +kernel) (by decide +kernel)
set_option maxRecDepth 20000 in
theorem gX7_bestByAll_X2_bestAmong : GoodIn wsX7_bestByAll (wsV RX7 113 RX2 yX2_bestAmong wsX2_bestAmong) := goodIn_app (goodIn_of _ (by decide +kernel)) ggX7_bestByAll_X2_bestAmong
theorem dX7_bestByAll_0 : decode cX7_bestByAll 0 = .ok (.iload_n 1, 1) := by decide +kernel
theorem dX7_bestByAll_1 : decode cX7_bestByAll 1 = .ok (.invokestatic 104, 3) := by decide +kernel
theorem dX7_bestByAll_4 : decode cX7_bestByAll 4 = .ok (.aload_n 0, 1) := by decide +kernel
theorem dX7_bestByAll_5 : decode cX7_bestByAll 5 = .ok (.invokevirtual 86, 3) := by decide +kernel
theorem dX7_bestByAll_8 : decode cX7_bestByAll 8 = .ok (.aload_n 0, 1) := by decide +kernel
theorem dX7_bestByAll_9 : decode cX7_bestByAll 9 = .ok (.getfield 26, 3) := by decide +kernel
theorem dX7_bestByAll_12 : decode cX7_bestByAll 12 = .ok (.ldc2_w 111, 3) := by decide +kernel
theorem dX7_bestByAll_15 : decode cX7_bestByAll 15 = .ok (.aload_n 0, 1) := by decide +kernel
theorem dX7_bestByAll_16 : decode cX7_bestByAll 16 = .ok (.getfield 10, 3) := by decide +kernel
theorem dX7_bestByAll_19 : decode cX7_bestByAll 19 = .ok (.iload_n 1, 1) := by decide +kernel
theorem dX7_bestByAll_20 : decode cX7_bestByAll 20 = .ok (.aload_n 0, 1) := by decide +kernel
theorem dX7_bestByAll_21 : decode cX7_bestByAll 21 = .ok (.getfield 60, 3) := by decide +kernel
theorem dX7_bestByAll_24 : decode cX7_bestByAll 24 = .ok (.invokevirtual 113, 3) := by decide +kernel
theorem dX7_bestByAll_27 : decode cX7_bestByAll 27 = .ok (.ireturn, 1) := by decide +kernel
set_option maxRecDepth 20000 in
theorem ggX7_cost_X7_refuseUnlessClient : GoodIn wsX7_cost wsX7_refuseUnlessClient := goodIn_ca (goodIn_r _ [6, 7, 8] (by decide +kernel) (by decide +kernel)) (goodIn_sub (fun _ h => List.mem_cons_of_mem _ (List.mem_append_left _ (List.mem_append_right _ h))) (by decide +kernel))
set_option maxRecDepth 20000 in
theorem gX7_cost_X7_refuseUnlessClient : GoodIn wsX7_cost (va_wsS RX7 104 yX7_refuseUnlessClient wsX7_refuseUnlessClient) := goodIn_app (goodIn_of _ (by decide +kernel)) ggX7_cost_X7_refuseUnlessClient
set_option maxRecDepth 20000 in
theorem ggX7_cost_X7_refuseEmptyDraft : GoodIn wsX7_cost wsX7_refuseEmptyDraft := goodIn_ca (goodIn_r _ [12, 13, 14, 2, 99, 100, 101, 102, 103, 104, 105, 106, 107, 108, 109, 110, 111, 112, 113] (by decide +kernel) (by decide +kernel)) (goodIn_sub (fun _ h => List.mem_cons_of_mem _ (List.mem_append_right _ h)) (by decide +kernel))
set_option maxRecDepth 20000 in
theorem gX7_cost_X7_refuseEmptyDraft : GoodIn wsX7_cost (wsV RX7 86 RX7 yX7_refuseEmptyDraft wsX7_refuseEmptyDraft) := goodIn_app (goodIn_of _ (by decide +kernel)) ggX7_cost_X7_refuseEmptyDraft
set_option maxRecDepth 20000 in
theorem ggX7_cost_X7_bestFor : GoodIn wsX7_cost wsX7_bestFor := goodIn_r _ [18, 1, 19, 20, 21, 22, 23, 24, 25, 26, 27, 28, 29, 30, 31, 32, 33, 34, 35, 36, 37, 38, 39, 40, 41, 42, 43, 44, 45, 46, 47, 48, 49, 50, 51, 52, 53, 54, 55, 56, 57, 58, 59, 60, 61, 62, 63, 64, 65, 66, 67, 68, 69, 70, 71, 72, 73, 74, 75, 76, 77, 78, 79, 80, 81, 82, 83, 84, 85, 86, 87, 88, 89, 99, 100, 101, 102, 103, 104, 105, 106, 107, 108, 109, 110, 111, 112, 113, 114, 115, 116, 117, 118, 119, 120, 121, 122, 123, 124] (by decide +kernel) (by decide +kernel)
set_option maxRecDepth 20000 in
theorem gX7_cost_X7_bestFor : GoodIn wsX7_cost (wsV RX7 107 RX7 yX7_bestFor wsX7_bestFor) := goodIn_app (goodIn_of _ (by decide +kernel)) ggX7_cost_X7_bestFor
set_option maxRecDepth 20000 in
theorem ggX7_cost_X2_shareOf : GoodIn wsX7_cost wsX2_shareOf := goodIn_r _ [93, 39, 40, 41, 42, 23, 43, 44, 60, 61, 62, 63, 64, 65, 66, 67, 68, 69, 70, 71, 72, 73, 27, 28, 29, 30, 31, 32, 74, 75, 76, 77, 78, 79, 80, 81, 82, 83, 84, 85, 86, 87, 88, 89, 114, 115, 116, 117, 118, 119, 120, 121, 112, 113, 124] (by decide +kernel) (by decide +kernel)
set_option maxRecDepth 20000 in
theorem gX7_cost_X2_shareOf : GoodIn wsX7_cost (wsV RX7 117 RX2 yX2_shareOf wsX2_shareOf) := goodIn_app (goodIn_of _ (by decide +kernel)) ggX7_cost_X2_shareOf
set_option maxRecDepth 20000 in
theorem ggX7_cost_X7_costOf : GoodIn wsX7_cost wsX7_costOf := goodIn_r _ [97, 98, 99, 100, 101, 102, 103, 104, 105, 106, 107, 108, 109, 110, 111] (by decide +kernel) (by decide +kernel)
set_option maxRecDepth 20000 in
theorem gX7_cost_X7_costOf : GoodIn wsX7_cost (wsV RX7 121 RX7 yX7_costOf wsX7_costOf) := goodIn_app (goodIn_of _ (by decide +kernel)) ggX7_cost_X7_costOf
theorem dX7_cost_0 : decode cX7_cost 0 = .ok (.iload_n 1, 1) := by decide +kernel
theorem dX7_cost_1 : decode cX7_cost 1 = .ok (.invokestatic 104, 3) := by decide +kernel
theorem dX7_cost_4 : decode cX7_cost 4 = .ok (.aload_n 0, 1) := by decide +kernel
theorem dX7_cost_5 : decode cX7_cost 5 = .ok (.invokevirtual 86, 3) := by decide +kernel
theorem dX7_cost_8 : decode cX7_cost 8 = .ok (.aload_n 0, 1) := by decide +kernel
theorem dX7_cost_9 : decode cX7_cost 9 = .ok (.getfield 26, 3) := by decide +kernel
theorem dX7_cost_12 : decode cX7_cost 12 = .ok (.aload_n 0, 1) := by decide +kernel
theorem dX7_cost_13 : decode cX7_cost 13 = .ok (.getfield 10, 3) := by decide +kernel
theorem dX7_cost_16 : decode cX7_cost 16 = .ok (.aload_n 0, 1) := by decide +kernel
theorem dX7_cost_17 : decode cX7_cost 17 = .ok (.iload_n 1, 1) := by decide +kernel
theorem dX7_cost_18 : decode cX7_cost 18 = .ok (.aload_n 0, 1) := by decide +kernel
theorem dX7_cost_19 : decode cX7_cost 19 = .ok (.getfield 10, 3) := by decide +kernel
theorem dX7_cost_22 : decode cX7_cost 22 = .ok (.invokevirtual 107, 3) := by decide +kernel
theorem dX7_cost_25 : decode cX7_cost 25 = .ok (.invokevirtual 117, 3) := by decide +kernel
theorem dX7_cost_28 : decode cX7_cost 28 = .ok (.istore_n 3, 1) := by decide +kernel
theorem dX7_cost_29 : decode cX7_cost 29 = .ok (.aload_n 0, 1) := by decide +kernel
theorem dX7_cost_30 : decode cX7_cost 30 = .ok (.aload_n 0, 1) := by decide +kernel
theorem dX7_cost_31 : decode cX7_cost 31 = .ok (.getfield 10, 3) := by decide +kernel
theorem dX7_cost_34 : decode cX7_cost 34 = .ok (.getfield 72, 3) := by decide +kernel
theorem dX7_cost_37 : decode cX7_cost 37 = .ok (.iload_n 3, 1) := by decide +kernel
theorem dX7_cost_38 : decode cX7_cost 38 = .ok (.iload_n 2, 1) := by decide +kernel
theorem dX7_cost_39 : decode cX7_cost 39 = .ok (.invokevirtual 121, 3) := by decide +kernel
theorem dX7_cost_42 : decode cX7_cost 42 = .ok (.ireturn, 1) := by decide +kernel
set_option maxRecDepth 20000 in
theorem ggX7_order_X7_refuseUnlessClient : GoodIn wsX7_order wsX7_refuseUnlessClient := goodIn_ca (goodIn_r _ [15, 16, 17] (by decide +kernel) (by decide +kernel)) (goodIn_sub (fun _ h => List.mem_cons_of_mem _ (List.mem_append_right _ h)) (by decide +kernel))
set_option maxRecDepth 20000 in
theorem gX7_order_X7_refuseUnlessClient : GoodIn wsX7_order (va_wsS RX7 104 yX7_refuseUnlessClient wsX7_refuseUnlessClient) := goodIn_app (goodIn_of _ (by decide +kernel)) ggX7_order_X7_refuseUnlessClient
set_option maxRecDepth 20000 in
theorem ggX7_order_X7_refuseEmptyDraft : GoodIn wsX7_order wsX7_refuseEmptyDraft := goodIn_ca (goodIn_r _ [21, 1, 2, 11, 72, 73, 74, 75, 76, 77, 78, 79, 80, 81, 82, 83, 84, 95, 96] (by decide +kernel) (by decide +kernel)) (goodIn_sub (fun _ h => List.mem_cons_of_mem _ (List.mem_append_left _ (List.mem_append_right _ h))) (by decide +kernel))
set_option maxRecDepth 20000 in
theorem gX7_order_X7_refuseEmptyDraft : GoodIn wsX7_order (wsV RX7 86 RX7 yX7_refuseEmptyDraft wsX7_refuseEmptyDraft) := goodIn_app (goodIn_of _ (by decide +kernel)) ggX7_order_X7_refuseEmptyDraft
set_option maxRecDepth 20000 in
theorem ggX7_order_X6_init : GoodIn wsX7_order wsX6_init := goodIn_r _ [24, 25, 26, 27, 28, 29, 30, 31, 32, 33, 34, 35, 36, 37, 38, 39, 40, 41, 42, 43, 44, 45, 46, 47, 95, 96, 92, 93, 94] (by decide +kernel) (by decide +kernel)
set_option maxRecDepth 20000 in
theorem gX7_order_X6_init : GoodIn wsX7_order (wsX6_init) := ggX7_order_X6_init
set_option maxRecDepth 20000 in
theorem ggX7_order_X3_init : GoodIn wsX7_order wsX3_init := goodIn_r _ [50, 51, 26, 27, 52, 53, 54, 55, 56, 57, 58, 85, 86, 87, 88, 89, 90, 91] (by decide +kernel) (by decide +kernel)
set_option maxRecDepth 20000 in
theorem gX7_order_X3_init : GoodIn wsX7_order (wsX3_init) := ggX7_order_X3_init
set_option maxRecDepth 20000 in
theorem ggX7_order_X7_deskFor : GoodIn wsX7_order wsX7_deskFor := goodIn_r _ [62, 63, 64, 72, 73, 74, 75, 76, 77, 78, 79, 80, 81, 82, 83, 84] (by decide +kernel) (by decide +kernel)
set_option maxRecDepth 20000 in
theorem gX7_order_X7_deskFor : GoodIn wsX7_order (wsV RX7 131 RX7 yX7_deskFor wsX7_deskFor) := goodIn_app (goodIn_of _ (by decide +kernel)) ggX7_order_X7_deskFor
set_option maxRecDepth 20000 in
theorem ggX7_order_X1_addLast : GoodIn wsX7_order wsX1_addLast := goodIn_r _ [69, 70, 71, 97, 98] (by decide +kernel) (by decide +kernel)
set_option maxRecDepth 20000 in
theorem gX7_order_X1_addLast : GoodIn wsX7_order (wsV RX7 135 RX1 yX1_addLast wsX1_addLast) := goodIn_app (goodIn_of _ (by decide +kernel)) ggX7_order_X1_addLast
theorem dX7_order_0 : decode cX7_order 0 = .ok (.iload_n 1, 1) := by decide +kernel
theorem dX7_order_1 : decode cX7_order 1 = .ok (.invokestatic 104, 3) := by decide +kernel
theorem dX7_order_4 : decode cX7_order 4 = .ok (.aload_n 0, 1) := by decide +kernel
theorem dX7_order_5 : decode cX7_order 5 = .ok (.invokevirtual 86, 3) := by decide +kernel
theorem dX7_order_8 : decode cX7_order 8 = .ok (.aload_n 0, 1) := by decide +kernel
theorem dX7_order_9 : decode cX7_order 9 = .ok (.getfield 56, 3) := by decide +kernel
theorem dX7_order_12 : decode cX7_order 12 = .ok (.istore_n 3, 1) := by decide +kernel
theorem dX7_order_13 : decode cX7_order 13 = .ok (.iload_n 3, 1) := by decide +kernel
theorem dX7_order_14 : decode cX7_order 14 = .ok (.ifCond .lt 12, 3) := by decide +kernel
theorem dX7_order_17 : decode cX7_order 17 = .ok (.iload_n 3, 1) := by decide +kernel
theorem dX7_order_18 : decode cX7_order 18 = .ok (.aload_n 0, 1) := by decide +kernel
theorem dX7_order_19 : decode cX7_order 19 = .ok (.getfield 32, 3) := by decide +kernel
theorem dX7_order_22 : decode cX7_order 22 = .ok (.arraylength, 1) := by decide +kernel
theorem dX7_order_23 : decode cX7_order 23 = .ok (.if_icmp .lt 11, 3) := by decide +kernel
theorem dX7_order_26 : decode cX7_order 26 = .ok (.new 75, 3) := by decide +kernel
theorem dX7_order_29 : decode cX7_order 29 = .ok (.dup, 1) := by decide +kernel
theorem dX7_order_30 : decode cX7_order 30 = .ok (.invokespecial 77, 3) := by decide +kernel
theorem dX7_order_33 : decode cX7_order 33 = .ok (.athrow, 1) := by decide +kernel
theorem dX7_order_34 : decode cX7_order 34 = .ok (.aload_n 0, 1) := by decide +kernel
theorem dX7_order_35 : decode cX7_order 35 = .ok (.getfield 32, 3) := by decide +kernel
theorem dX7_order_38 : decode cX7_order 38 = .ok (.iload_n 3, 1) := by decide +kernel
theorem dX7_order_39 : decode cX7_order 39 = .ok (.new 30, 3) := by decide +kernel
theorem dX7_order_42 : decode cX7_order 42 = .ok (.dup, 1) := by decide +kernel
theorem dX7_order_43 : decode cX7_order 43 = .ok (.iload_n 3, 1) := by decide +kernel
theorem dX7_order_44 : decode cX7_order 44 = .ok (.iload_n 2, 1) := by decide +kernel
theorem dX7_order_45 : decode cX7_order 45 = .ok (.new 94, 3) := by decide +kernel
theorem dX7_order_48 : decode cX7_order 48 = .ok (.dup, 1) := by decide +kernel
theorem dX7_order_49 : decode cX7_order 49 = .ok (.iload_n 1, 1) := by decide +kernel
theorem dX7_order_50 : decode cX7_order 50 = .ok (.aload_n 0, 1) := by decide +kernel
theorem dX7_order_51 : decode cX7_order 51 = .ok (.getfield 10, 3) := by decide +kernel
theorem dX7_order_54 : decode cX7_order 54 = .ok (.invokespecial 125, 3) := by decide +kernel
theorem dX7_order_57 : decode cX7_order 57 = .ok (.invokespecial 128, 3) := by decide +kernel
theorem dX7_order_60 : decode cX7_order 60 = .ok (.aastore, 1) := by decide +kernel
theorem dX7_order_61 : decode cX7_order 61 = .ok (.aload_n 0, 1) := by decide +kernel
theorem dX7_order_62 : decode cX7_order 62 = .ok (.dup, 1) := by decide +kernel
theorem dX7_order_63 : decode cX7_order 63 = .ok (.getfield 56, 3) := by decide +kernel
theorem dX7_order_66 : decode cX7_order 66 = .ok (.iconst 1, 1) := by decide +kernel
theorem dX7_order_67 : decode cX7_order 67 = .ok (.iadd, 1) := by decide +kernel
theorem dX7_order_68 : decode cX7_order 68 = .ok (.putfield 56, 3) := by decide +kernel
theorem dX7_order_71 : decode cX7_order 71 = .ok (.aload_n 0, 1) := by decide +kernel
theorem dX7_order_72 : decode cX7_order 72 = .ok (.iload_n 2, 1) := by decide +kernel
theorem dX7_order_73 : decode cX7_order 73 = .ok (.invokevirtual 131, 3) := by decide +kernel
theorem dX7_order_76 : decode cX7_order 76 = .ok (.iload_n 3, 1) := by decide +kernel
theorem dX7_order_77 : decode cX7_order 77 = .ok (.invokevirtual 135, 3) := by decide +kernel
theorem dX7_order_80 : decode cX7_order 80 = .ok (.iload_n 3, 1) := by decide +kernel
theorem dX7_order_81 : decode cX7_order 81 = .ok (.ireturn, 1) := by decide +kernel
set_option maxRecDepth 20000 in
theorem ggX7_take_X7_refuseUnlessTranslator : GoodIn wsX7_take wsX7_refuseUnlessTranslator := goodIn_ca (goodIn_r _ [8, 9, 10] (by decide +kernel) (by decide +kernel)) (goodIn_sub (fun _ h => List.mem_cons_of_mem _ (List.mem_append_right _ h)) (by decide +kernel))
set_option maxRecDepth 20000 in
theorem gX7_take_X7_refuseUnlessTranslator : GoodIn wsX7_take (va_wsS RX7 138 yX7_refuseUnlessTranslator wsX7_refuseUnlessTranslator) := goodIn_app (goodIn_of _ (by decide +kernel)) ggX7_take_X7_refuseUnlessTranslator
set_option maxRecDepth 20000 in
theorem ggX7_take_X7_handOf : GoodIn wsX7_take wsX7_handOf := goodIn_r _ [14, 15, 141, 142, 143, 144, 145, 146, 147, 148, 149, 150, 151, 152, 153] (by decide +kernel) (by decide +kernel)
set_option maxRecDepth 20000 in
theorem gX7_take_X7_handOf : GoodIn wsX7_take (wsV RX7 141 RX7 yX7_handOf wsX7_handOf) := goodIn_app (goodIn_of _ (by decide +kernel)) ggX7_take_X7_handOf
set_option maxRecDepth 20000 in
theorem ggX7_take_X1_at : GoodIn wsX7_take wsX1_at := goodIn_r _ [20, 21, 22, 23, 24, 19, 25, 26, 154, 155] (by decide +kernel) (by decide +kernel)
set_option maxRecDepth 20000 in
theorem gX7_take_X1_at : GoodIn wsX7_take (wsV RX7 148 RX1 yX1_at wsX1_at) := goodIn_app (goodIn_of _ (by decide +kernel)) ggX7_take_X1_at
set_option maxRecDepth 20000 in
theorem ggX7_take_X7_orderNumbered : GoodIn wsX7_take wsX7_orderNumbered := goodIn_r _ [30, 31, 141, 142, 143, 144, 145, 146, 147, 148, 149, 150, 151, 152, 153] (by decide +kernel) (by decide +kernel)
set_option maxRecDepth 20000 in
theorem gX7_take_X7_orderNumbered : GoodIn wsX7_take (wsV RX7 152 RX7 yX7_orderNumbered wsX7_orderNumbered) := goodIn_app (goodIn_of _ (by decide +kernel)) ggX7_take_X7_orderNumbered
set_option maxRecDepth 20000 in
theorem ggX7_take_X1_removeFirst : GoodIn wsX7_take wsX1_removeFirst := goodIn_r _ [35, 36, 37, 38, 19, 39, 26, 21, 22, 23, 24, 25, 154, 155] (by decide +kernel) (by decide +kernel)
set_option maxRecDepth 20000 in
theorem gX7_take_X1_removeFirst : GoodIn wsX7_take (wsV RX7 155 RX1 yX1_removeFirst wsX1_removeFirst) := goodIn_app (goodIn_of _ (by decide +kernel)) ggX7_take_X1_removeFirst
set_option maxRecDepth 20000 in
theorem ggX7_take_X7_putInHand : GoodIn wsX7_take wsX7_putInHand := goodIn_r _ [43, 15, 141, 142, 143, 144, 145, 146, 147, 148, 149, 150, 151, 152, 153] (by decide +kernel) (by decide +kernel)
set_option maxRecDepth 20000 in
theorem gX7_take_X7_putInHand : GoodIn wsX7_take (wsV RX7 158 RX7 yX7_putInHand wsX7_putInHand) := goodIn_app (goodIn_of _ (by decide +kernel)) ggX7_take_X7_putInHand
set_option maxRecDepth 20000 in
theorem ggX7_take_X7_begin : GoodIn wsX7_take wsX7_begin := goodIn_r _ [47, 48, 49, 50, 51, 52, 7, 53, 54, 55, 56, 57, 58, 59, 60, 61, 62, 63, 64, 65, 66, 67, 68, 69, 70, 71, 72, 73, 74, 75, 76, 77, 78, 79, 80, 81, 82, 19, 83, 26, 84, 17, 18, 20, 21, 22, 23, 24, 25, 85, 86, 87, 88, 89, 90, 91, 92, 93, 94, 95, 96, 97, 98, 99, 100, 101, 102, 103, 104, 105, 106, 107, 108, 109, 110, 111, 112, 113, 114, 115, 116, 117, 118, 119, 120, 121, 122, 123, 124, 125, 126, 127, 128, 129, 130, 131, 132, 133, 134, 135, 136, 137, 138, 139, 140, 156, 157, 158, 159, 160, 161, 162, 163, 164, 165, 166, 167, 141, 142, 143, 144, 145, 146, 147, 148, 149, 150, 151, 152, 153, 168, 169, 170, 171, 172, 154, 155, 173] (by decide +kernel) (by decide +kernel)
set_option maxRecDepth 20000 in
theorem gX7_take_X7_begin : GoodIn wsX7_take (wsV RX7 165 RX7 yX7_begin wsX7_begin) := goodIn_app (goodIn_of _ (by decide +kernel)) ggX7_take_X7_begin
theorem dX7_take_0 : decode cX7_take 0 = .ok (.iload_n 1, 1) := by decide +kernel
theorem dX7_take_1 : decode cX7_take 1 = .ok (.invokestatic 138, 3) := by decide +kernel
theorem dX7_take_4 : decode cX7_take 4 = .ok (.aload_n 0, 1) := by decide +kernel
theorem dX7_take_5 : decode cX7_take 5 = .ok (.iload_n 1, 1) := by decide +kernel
theorem dX7_take_6 : decode cX7_take 6 = .ok (.invokevirtual 141, 3) := by decide +kernel
theorem dX7_take_9 : decode cX7_take 9 = .ok (.ifnull 11, 3) := by decide +kernel
theorem dX7_take_12 : decode cX7_take 12 = .ok (.new 75, 3) := by decide +kernel
theorem dX7_take_15 : decode cX7_take 15 = .ok (.dup, 1) := by decide +kernel
theorem dX7_take_16 : decode cX7_take 16 = .ok (.invokespecial 77, 3) := by decide +kernel
theorem dX7_take_19 : decode cX7_take 19 = .ok (.athrow, 1) := by decide +kernel
theorem dX7_take_20 : decode cX7_take 20 = .ok (.aload_n 0, 1) := by decide +kernel
theorem dX7_take_21 : decode cX7_take 21 = .ok (.getfield 42, 3) := by decide +kernel
theorem dX7_take_24 : decode cX7_take 24 = .ok (.getfield 145, 3) := by decide +kernel
theorem dX7_take_27 : decode cX7_take 27 = .ok (.ifCond .le 10, 3) := by decide +kernel
theorem dX7_take_30 : decode cX7_take 30 = .ok (.aload_n 0, 1) := by decide +kernel
theorem dX7_take_31 : decode cX7_take 31 = .ok (.getfield 42, 3) := by decide +kernel
theorem dX7_take_34 : decode cX7_take 34 = .ok (.goto 7, 3) := by decide +kernel
theorem dX7_take_37 : decode cX7_take 37 = .ok (.aload_n 0, 1) := by decide +kernel
theorem dX7_take_38 : decode cX7_take 38 = .ok (.getfield 46, 3) := by decide +kernel
theorem dX7_take_41 : decode cX7_take 41 = .ok (.astore_n 2, 1) := by decide +kernel
theorem dX7_take_42 : decode cX7_take 42 = .ok (.aload_n 0, 1) := by decide +kernel
theorem dX7_take_43 : decode cX7_take 43 = .ok (.aload_n 2, 1) := by decide +kernel
theorem dX7_take_44 : decode cX7_take 44 = .ok (.iconst 0, 1) := by decide +kernel
theorem dX7_take_45 : decode cX7_take 45 = .ok (.invokevirtual 148, 3) := by decide +kernel
theorem dX7_take_48 : decode cX7_take 48 = .ok (.invokevirtual 152, 3) := by decide +kernel
theorem dX7_take_51 : decode cX7_take 51 = .ok (.astore_n 3, 1) := by decide +kernel
theorem dX7_take_52 : decode cX7_take 52 = .ok (.aload_n 3, 1) := by decide +kernel
theorem dX7_take_53 : decode cX7_take 53 = .ok (.ifnonnull 5, 3) := by decide +kernel
theorem dX7_take_56 : decode cX7_take 56 = .ok (.iconst (-1), 1) := by decide +kernel
theorem dX7_take_57 : decode cX7_take 57 = .ok (.ireturn, 1) := by decide +kernel
theorem dX7_take_58 : decode cX7_take 58 = .ok (.aload_n 2, 1) := by decide +kernel
theorem dX7_take_59 : decode cX7_take 59 = .ok (.invokevirtual 155, 3) := by decide +kernel
theorem dX7_take_62 : decode cX7_take 62 = .ok (.aload_n 0, 1) := by decide +kernel
theorem dX7_take_63 : decode cX7_take 63 = .ok (.iload_n 1, 1) := by decide +kernel
theorem dX7_take_64 : decode cX7_take 64 = .ok (.aload_n 3, 1) := by decide +kernel
theorem dX7_take_65 : decode cX7_take 65 = .ok (.invokevirtual 158, 3) := by decide +kernel
theorem dX7_take_68 : decode cX7_take 68 = .ok (.aload_n 3, 1) := by decide +kernel
theorem dX7_take_69 : decode cX7_take 69 = .ok (.iload_n 1, 1) := by decide +kernel
theorem dX7_take_70 : decode cX7_take 70 = .ok (.putfield 162, 3) := by decide +kernel
theorem dX7_take_73 : decode cX7_take 73 = .ok (.aload_n 0, 1) := by decide +kernel
theorem dX7_take_74 : decode cX7_take 74 = .ok (.aload_n 3, 1) := by decide +kernel
theorem dX7_take_75 : decode cX7_take 75 = .ok (.invokevirtual 165, 3) := by decide +kernel
theorem dX7_take_78 : decode cX7_take 78 = .ok (.aload_n 3, 1) := by decide +kernel
theorem dX7_take_79 : decode cX7_take 79 = .ok (.getfield 169, 3) := by decide +kernel
theorem dX7_take_82 : decode cX7_take 82 = .ok (.ireturn, 1) := by decide +kernel
set_option maxRecDepth 20000 in
theorem ggX7_giveBack_X7_orderInHandOf : GoodIn wsX7_giveBack wsX7_orderInHandOf := goodIn_ca (goodIn_ca (goodIn_r _ [5, 6, 7, 8, 9, 4, 10, 11, 12, 13, 14, 15, 16, 17, 63, 64, 65, 66, 67, 68, 69, 70, 71, 72, 73, 74, 75] (by decide +kernel) (by decide +kernel)) (goodIn_sub (fun _ h => List.mem_cons_of_mem _ (List.mem_append_left _ (List.mem_append_right _ h))) (by decide +kernel))) (goodIn_sub (fun _ h => List.mem_cons_of_mem _ (List.mem_append_right _ h)) (by decide +kernel))
set_option maxRecDepth 20000 in
theorem gX7_giveBack_X7_orderInHandOf : GoodIn wsX7_giveBack (wsV RX7 172 RX7 yX7_orderInHandOf wsX7_orderInHandOf) := goodIn_app (goodIn_of _ (by decide +kernel)) ggX7_giveBack_X7_orderInHandOf
set_option maxRecDepth 20000 in
theorem ggX7_giveBack_X7_putInHand : GoodIn wsX7_giveBack wsX7_putInHand := goodIn_r _ [21, 17, 63, 64, 65, 66, 67, 68, 69, 70, 71, 72, 73, 74, 75] (by decide +kernel) (by decide +kernel)
set_option maxRecDepth 20000 in
theorem gX7_giveBack_X7_putInHand : GoodIn wsX7_giveBack (wsV RX7 158 RX7 yX7_putInHand wsX7_putInHand) := goodIn_app (goodIn_of _ (by decide +kernel)) ggX7_giveBack_X7_putInHand
set_option maxRecDepth 20000 in
theorem ggX7_giveBack_X6_forgetAll : GoodIn wsX7_giveBack wsX6_forgetAll := goodIn_r _ [26, 27, 28, 29, 30, 31, 32, 33, 34, 35, 36, 37, 38, 76, 77, 78, 79, 80] (by decide +kernel) (by decide +kernel)
set_option maxRecDepth 20000 in
theorem gX7_giveBack_X6_forgetAll : GoodIn wsX7_giveBack (wsV RX7 182 RX6 yX6_forgetAll wsX6_forgetAll) := goodIn_app (goodIn_of _ (by decide +kernel)) ggX7_giveBack_X6_forgetAll
set_option maxRecDepth 20000 in
theorem ggX7_giveBack_X7_deskFor : GoodIn wsX7_giveBack wsX7_deskFor := goodIn_r _ [42, 43, 44, 63, 64, 65, 66, 67, 68, 69, 70, 71, 72, 73, 74, 75] (by decide +kernel) (by decide +kernel)
set_option maxRecDepth 20000 in
theorem gX7_giveBack_X7_deskFor : GoodIn wsX7_giveBack (wsV RX7 131 RX7 yX7_deskFor wsX7_deskFor) := goodIn_app (goodIn_of _ (by decide +kernel)) ggX7_giveBack_X7_deskFor
set_option maxRecDepth 20000 in
theorem ggX7_giveBack_X1_addFirst : GoodIn wsX7_giveBack wsX1_addFirst := goodIn_r _ [49, 50, 51, 52, 53, 54, 48, 55, 81, 82] (by decide +kernel) (by decide +kernel)
set_option maxRecDepth 20000 in
theorem gX7_giveBack_X1_addFirst : GoodIn wsX7_giveBack (wsV RX7 189 RX1 yX1_addFirst wsX1_addFirst) := goodIn_app (goodIn_of _ (by decide +kernel)) ggX7_giveBack_X1_addFirst
theorem dX7_giveBack_0 : decode cX7_giveBack 0 = .ok (.aload_n 0, 1) := by decide +kernel
theorem dX7_giveBack_1 : decode cX7_giveBack 1 = .ok (.iload_n 1, 1) := by decide +kernel
theorem dX7_giveBack_2 : decode cX7_giveBack 2 = .ok (.invokevirtual 172, 3) := by decide +kernel
theorem dX7_giveBack_5 : decode cX7_giveBack 5 = .ok (.astore_n 2, 1) := by decide +kernel
theorem dX7_giveBack_6 : decode cX7_giveBack 6 = .ok (.aload_n 0, 1) := by decide +kernel
theorem dX7_giveBack_7 : decode cX7_giveBack 7 = .ok (.iload_n 1, 1) := by decide +kernel
theorem dX7_giveBack_8 : decode cX7_giveBack 8 = .ok (.aconst_null, 1) := by decide +kernel
theorem dX7_giveBack_9 : decode cX7_giveBack 9 = .ok (.invokevirtual 158, 3) := by decide +kernel
theorem dX7_giveBack_12 : decode cX7_giveBack 12 = .ok (.aload_n 2, 1) := by decide +kernel
theorem dX7_giveBack_13 : decode cX7_giveBack 13 = .ok (.iconst (-1), 1) := by decide +kernel
theorem dX7_giveBack_14 : decode cX7_giveBack 14 = .ok (.putfield 162, 3) := by decide +kernel
theorem dX7_giveBack_17 : decode cX7_giveBack 17 = .ok (.aload_n 2, 1) := by decide +kernel
theorem dX7_giveBack_18 : decode cX7_giveBack 18 = .ok (.iconst (-1), 1) := by decide +kernel
theorem dX7_giveBack_19 : decode cX7_giveBack 19 = .ok (.putfield 175, 3) := by decide +kernel
theorem dX7_giveBack_22 : decode cX7_giveBack 22 = .ok (.aload_n 2, 1) := by decide +kernel
theorem dX7_giveBack_23 : decode cX7_giveBack 23 = .ok (.getfield 178, 3) := by decide +kernel
theorem dX7_giveBack_26 : decode cX7_giveBack 26 = .ok (.invokevirtual 182, 3) := by decide +kernel
theorem dX7_giveBack_29 : decode cX7_giveBack 29 = .ok (.aload_n 0, 1) := by decide +kernel
theorem dX7_giveBack_30 : decode cX7_giveBack 30 = .ok (.aload_n 2, 1) := by decide +kernel
theorem dX7_giveBack_31 : decode cX7_giveBack 31 = .ok (.getfield 185, 3) := by decide +kernel
theorem dX7_giveBack_34 : decode cX7_giveBack 34 = .ok (.invokevirtual 131, 3) := by decide +kernel
theorem dX7_giveBack_37 : decode cX7_giveBack 37 = .ok (.aload_n 2, 1) := by decide +kernel
theorem dX7_giveBack_38 : decode cX7_giveBack 38 = .ok (.getfield 169, 3) := by decide +kernel
theorem dX7_giveBack_41 : decode cX7_giveBack 41 = .ok (.invokevirtual 189, 3) := by decide +kernel
theorem dX7_giveBack_44 : decode cX7_giveBack 44 = .ok (.aload_n 2, 1) := by decide +kernel
theorem dX7_giveBack_45 : decode cX7_giveBack 45 = .ok (.getfield 169, 3) := by decide +kernel
theorem dX7_giveBack_48 : decode cX7_giveBack 48 = .ok (.ireturn, 1) := by decide +kernel
set_option maxRecDepth 20000 in
theorem ggX7_translate_X7_orderInHandOf : GoodIn wsX7_translate wsX7_orderInHandOf := goodIn_ca (goodIn_ca (goodIn_r _ [7, 8, 9, 10, 11, 6, 12, 1, 2, 13, 14, 15, 16, 17, 55, 56, 57, 58, 59, 60, 61, 62, 63, 64, 65, 66, 67] (by decide +kernel) (by decide +kernel)) (goodIn_sub (fun _ h => List.mem_cons_of_mem _ (List.mem_append_left _ (List.mem_append_right _ h))) (by decide +kernel))) (goodIn_sub (fun _ h => List.mem_cons_of_mem _ (List.mem_append_left _ (List.mem_append_left _ (List.mem_append_right _ h)))) (by decide +kernel))
set_option maxRecDepth 20000 in
theorem gX7_translate_X7_orderInHandOf : GoodIn wsX7_translate (wsV RX7 172 RX7 yX7_orderInHandOf wsX7_orderInHandOf) := goodIn_app (goodIn_of _ (by decide +kernel)) ggX7_translate_X7_orderInHandOf
set_option maxRecDepth 20000 in
theorem ggX7_translate_X7_refuseUnlessPlace : GoodIn wsX7_translate wsX7_refuseUnlessPlace := goodIn_ca (goodIn_r _ [20, 21, 22, 23, 24, 25, 26, 27, 28, 29, 52, 53, 54, 68, 69] (by decide +kernel) (by decide +kernel)) (goodIn_sub (fun _ h => List.mem_cons_of_mem _ (List.mem_append_right _ h)) (by decide +kernel))
set_option maxRecDepth 20000 in
theorem gX7_translate_X7_refuseUnlessPlace : GoodIn wsX7_translate (va_wsS RX7 192 yX7_refuseUnlessPlace wsX7_refuseUnlessPlace) := goodIn_app (goodIn_of _ (by decide +kernel)) ggX7_translate_X7_refuseUnlessPlace
set_option maxRecDepth 20000 in
theorem ggX7_translate_X4_put : GoodIn wsX7_translate wsX4_put := goodIn_r _ [33, 29, 34, 24, 25, 26, 27, 28, 68, 69] (by decide +kernel) (by decide +kernel)
set_option maxRecDepth 20000 in
theorem gX7_translate_X4_put : GoodIn wsX7_translate (wsV RX7 199 RX4 yX4_put wsX4_put) := goodIn_app (goodIn_of _ (by decide +kernel)) ggX7_translate_X4_put
set_option maxRecDepth 20000 in
theorem ggX7_translate_X6_countOpen : GoodIn wsX7_translate wsX6_countOpen := goodIn_r _ [39, 40, 41, 42, 43, 26, 44, 28, 29, 52, 53, 54, 68, 69] (by decide +kernel) (by decide +kernel)
set_option maxRecDepth 20000 in
theorem gX7_translate_X6_countOpen : GoodIn wsX7_translate (wsV RX7 203 RX6 yX6_countOpen wsX6_countOpen) := goodIn_app (goodIn_of _ (by decide +kernel)) ggX7_translate_X6_countOpen
theorem dX7_translate_0 : decode cX7_translate 0 = .ok (.iload_n 3, 1) := by decide +kernel
theorem dX7_translate_1 : decode cX7_translate 1 = .ok (.ifCond .lt 9, 3) := by decide +kernel
theorem dX7_translate_4 : decode cX7_translate 4 = .ok (.iload_n 3, 1) := by decide +kernel
theorem dX7_translate_5 : decode cX7_translate 5 = .ok (.bipush 100, 2) := by decide +kernel
theorem dX7_translate_7 : decode cX7_translate 7 = .ok (.if_icmp .lt 11, 3) := by decide +kernel
theorem dX7_translate_10 : decode cX7_translate 10 = .ok (.new 69, 3) := by decide +kernel
theorem dX7_translate_13 : decode cX7_translate 13 = .ok (.dup, 1) := by decide +kernel
theorem dX7_translate_14 : decode cX7_translate 14 = .ok (.invokespecial 71, 3) := by decide +kernel
theorem dX7_translate_17 : decode cX7_translate 17 = .ok (.athrow, 1) := by decide +kernel
theorem dX7_translate_18 : decode cX7_translate 18 = .ok (.aload_n 0, 1) := by decide +kernel
theorem dX7_translate_19 : decode cX7_translate 19 = .ok (.iload_n 1, 1) := by decide +kernel
theorem dX7_translate_20 : decode cX7_translate 20 = .ok (.invokevirtual 172, 3) := by decide +kernel
theorem dX7_translate_23 : decode cX7_translate 23 = .ok (.getfield 178, 3) := by decide +kernel
theorem dX7_translate_26 : decode cX7_translate 26 = .ok (.astore 4, 2) := by decide +kernel
theorem dX7_translate_28 : decode cX7_translate 28 = .ok (.aload 4, 2) := by decide +kernel
theorem dX7_translate_30 : decode cX7_translate 30 = .ok (.iload_n 2, 1) := by decide +kernel
theorem dX7_translate_31 : decode cX7_translate 31 = .ok (.invokestatic 192, 3) := by decide +kernel
theorem dX7_translate_34 : decode cX7_translate 34 = .ok (.aload 4, 2) := by decide +kernel
theorem dX7_translate_36 : decode cX7_translate 36 = .ok (.getfield 196, 3) := by decide +kernel
theorem dX7_translate_39 : decode cX7_translate 39 = .ok (.iload_n 2, 1) := by decide +kernel
theorem dX7_translate_40 : decode cX7_translate 40 = .ok (.iload_n 3, 1) := by decide +kernel
theorem dX7_translate_41 : decode cX7_translate 41 = .ok (.invokevirtual 199, 3) := by decide +kernel
theorem dX7_translate_44 : decode cX7_translate 44 = .ok (.aload 4, 2) := by decide +kernel
theorem dX7_translate_46 : decode cX7_translate 46 = .ok (.invokevirtual 203, 3) := by decide +kernel
theorem dX7_translate_49 : decode cX7_translate 49 = .ok (.ireturn, 1) := by decide +kernel
set_option maxRecDepth 20000 in
theorem ggX7_deliver_X7_orderInHandOf : GoodIn wsX7_deliver wsX7_orderInHandOf := goodIn_ca (goodIn_ca (goodIn_r _ [11, 1, 2, 12, 13, 10, 14, 15, 16, 17, 18, 19, 20, 21, 115, 116, 117, 118, 119, 120, 121, 122, 123, 124, 125, 126, 127] (by decide +kernel) (by decide +kernel)) (goodIn_sub (fun _ h => List.mem_cons_of_mem _ (List.mem_append_left _ (List.mem_append_right _ h))) (by decide +kernel))) (goodIn_sub (fun _ h => List.mem_cons_of_mem _ (List.mem_append_right _ h)) (by decide +kernel))
set_option maxRecDepth 20000 in
theorem gX7_deliver_X7_orderInHandOf : GoodIn wsX7_deliver (wsV RX7 172 RX7 yX7_orderInHandOf wsX7_orderInHandOf) := goodIn_app (goodIn_of _ (by decide +kernel)) ggX7_deliver_X7_orderInHandOf
set_option maxRecDepth 20000 in
theorem ggX7_deliver_X3_whyNot : GoodIn wsX7_deliver wsX3_whyNot := goodIn_r _ [26, 27, 28, 29, 30, 31, 32, 33, 34, 35, 36, 37, 38, 39, 40, 41, 42, 43, 25, 44, 45, 46, 47, 48, 49, 50, 51, 52, 53, 54, 55, 56, 57, 58, 59, 60, 61, 62, 63, 64, 133, 134, 135, 136, 137, 138, 139, 140, 141, 142, 143, 144, 145, 146, 147] (by decide +kernel) (by decide +kernel)
set_option maxRecDepth 20000 in
theorem gX7_deliver_X3_whyNot : GoodIn wsX7_deliver (wsV RX7 207 RX3 yX3_whyNot wsX3_whyNot) := goodIn_app (goodIn_of _ (by decide +kernel)) ggX7_deliver_X3_whyNot
set_option maxRecDepth 20000 in
theorem ggX7_deliver_X7_putInHand : GoodIn wsX7_deliver wsX7_putInHand := goodIn_r _ [68, 21, 115, 116, 117, 118, 119, 120, 121, 122, 123, 124, 125, 126, 127] (by decide +kernel) (by decide +kernel)
set_option maxRecDepth 20000 in
theorem gX7_deliver_X7_putInHand : GoodIn wsX7_deliver (wsV RX7 158 RX7 yX7_putInHand wsX7_putInHand) := goodIn_app (goodIn_of _ (by decide +kernel)) ggX7_deliver_X7_putInHand
set_option maxRecDepth 20000 in
theorem ggX7_deliver_X7_addTo : GoodIn wsX7_deliver wsX7_addTo := goodIn_r _ [71] (by decide +kernel) (by decide +kernel)
set_option maxRecDepth 20000 in
theorem gX7_deliver_X7_addTo : GoodIn wsX7_deliver (va_wsS RX7 218 yX7_addTo wsX7_addTo) := goodIn_app (goodIn_of _ (by decide +kernel)) ggX7_deliver_X7_addTo
set_option maxRecDepth 20000 in
theorem ggX7_deliver_X2_keep : GoodIn wsX7_deliver wsX2_keep := goodIn_r _ [76, 77, 78, 79, 80, 35, 36, 37, 38, 39, 40, 128, 129, 130, 131, 132, 140, 141, 142, 143, 144] (by decide +kernel) (by decide +kernel)
set_option maxRecDepth 20000 in
theorem gX7_deliver_X2_keep : GoodIn wsX7_deliver (wsV RX7 225 RX2 yX2_keep wsX2_keep) := goodIn_app (goodIn_of _ (by decide +kernel)) ggX7_deliver_X2_keep
set_option maxRecDepth 20000 in
theorem ggX7_deliver_X2_listDue : GoodIn wsX7_deliver wsX2_listDue := goodIn_r _ [84, 85, 77, 86, 87, 88, 89, 90, 91, 92, 93, 94, 95, 96, 97, 98, 99, 75, 100, 78, 101, 47, 48, 31, 49, 50, 51, 52, 53, 54, 55, 33, 34, 35, 36, 37, 38, 39, 40, 56, 57, 58, 59, 60, 61, 62, 63, 64, 102, 103, 104, 105, 106, 107, 108, 109, 110, 111, 112, 113, 114, 128, 129, 130, 131, 132, 148, 149, 140, 141, 142, 143, 144, 145, 146, 147] (by decide +kernel) (by decide +kernel)
set_option maxRecDepth 20000 in
theorem gX7_deliver_X2_listDue : GoodIn wsX7_deliver (wsV RX7 229 RX2 yX2_listDue wsX2_listDue) := goodIn_app (goodIn_of _ (by decide +kernel)) ggX7_deliver_X2_listDue
theorem dX7_deliver_0 : decode cX7_deliver 0 = .ok (.aload_n 0, 1) := by decide +kernel
theorem dX7_deliver_1 : decode cX7_deliver 1 = .ok (.iload_n 1, 1) := by decide +kernel
theorem dX7_deliver_2 : decode cX7_deliver 2 = .ok (.invokevirtual 172, 3) := by decide +kernel
theorem dX7_deliver_5 : decode cX7_deliver 5 = .ok (.astore_n 2, 1) := by decide +kernel
theorem dX7_deliver_6 : decode cX7_deliver 6 = .ok (.aload_n 2, 1) := by decide +kernel
theorem dX7_deliver_7 : decode cX7_deliver 7 = .ok (.aload_n 0, 1) := by decide +kernel
theorem dX7_deliver_8 : decode cX7_deliver 8 = .ok (.getfield 19, 3) := by decide +kernel
theorem dX7_deliver_11 : decode cX7_deliver 11 = .ok (.invokevirtual 207, 3) := by decide +kernel
theorem dX7_deliver_14 : decode cX7_deliver 14 = .ok (.ifCond .ne 15, 3) := by decide +kernel
theorem dX7_deliver_17 : decode cX7_deliver 17 = .ok (.aload_n 0, 1) := by decide +kernel
theorem dX7_deliver_18 : decode cX7_deliver 18 = .ok (.getfield 26, 3) := by decide +kernel
theorem dX7_deliver_21 : decode cX7_deliver 21 = .ok (.getfield 211, 3) := by decide +kernel
theorem dX7_deliver_24 : decode cX7_deliver 24 = .ok (.bipush 40, 2) := by decide +kernel
theorem dX7_deliver_26 : decode cX7_deliver 26 = .ok (.if_icmp .lt 11, 3) := by decide +kernel
theorem dX7_deliver_29 : decode cX7_deliver 29 = .ok (.new 75, 3) := by decide +kernel
theorem dX7_deliver_32 : decode cX7_deliver 32 = .ok (.dup, 1) := by decide +kernel
theorem dX7_deliver_33 : decode cX7_deliver 33 = .ok (.invokespecial 77, 3) := by decide +kernel
theorem dX7_deliver_36 : decode cX7_deliver 36 = .ok (.athrow, 1) := by decide +kernel
theorem dX7_deliver_37 : decode cX7_deliver 37 = .ok (.aload_n 0, 1) := by decide +kernel
theorem dX7_deliver_38 : decode cX7_deliver 38 = .ok (.iload_n 1, 1) := by decide +kernel
theorem dX7_deliver_39 : decode cX7_deliver 39 = .ok (.aconst_null, 1) := by decide +kernel
theorem dX7_deliver_40 : decode cX7_deliver 40 = .ok (.invokevirtual 158, 3) := by decide +kernel
theorem dX7_deliver_43 : decode cX7_deliver 43 = .ok (.aload_n 2, 1) := by decide +kernel
theorem dX7_deliver_44 : decode cX7_deliver 44 = .ok (.bipush (-2), 2) := by decide +kernel
theorem dX7_deliver_46 : decode cX7_deliver 46 = .ok (.putfield 162, 3) := by decide +kernel
theorem dX7_deliver_49 : decode cX7_deliver 49 = .ok (.aload_n 0, 1) := by decide +kernel
theorem dX7_deliver_50 : decode cX7_deliver 50 = .ok (.getfield 49, 3) := by decide +kernel
theorem dX7_deliver_53 : decode cX7_deliver 53 = .ok (.aload_n 2, 1) := by decide +kernel
theorem dX7_deliver_54 : decode cX7_deliver 54 = .ok (.getfield 178, 3) := by decide +kernel
theorem dX7_deliver_57 : decode cX7_deliver 57 = .ok (.getfield 212, 3) := by decide +kernel
theorem dX7_deliver_60 : decode cX7_deliver 60 = .ok (.aload_n 2, 1) := by decide +kernel
theorem dX7_deliver_61 : decode cX7_deliver 61 = .ok (.getfield 215, 3) := by decide +kernel
theorem dX7_deliver_64 : decode cX7_deliver 64 = .ok (.invokestatic 218, 3) := by decide +kernel
theorem dX7_deliver_67 : decode cX7_deliver 67 = .ok (.aload_n 0, 1) := by decide +kernel
theorem dX7_deliver_68 : decode cX7_deliver 68 = .ok (.getfield 53, 3) := by decide +kernel
theorem dX7_deliver_71 : decode cX7_deliver 71 = .ok (.iload_n 1, 1) := by decide +kernel
theorem dX7_deliver_72 : decode cX7_deliver 72 = .ok (.aload_n 2, 1) := by decide +kernel
theorem dX7_deliver_73 : decode cX7_deliver 73 = .ok (.getfield 222, 3) := by decide +kernel
theorem dX7_deliver_76 : decode cX7_deliver 76 = .ok (.invokestatic 218, 3) := by decide +kernel
theorem dX7_deliver_79 : decode cX7_deliver 79 = .ok (.aload_n 0, 1) := by decide +kernel
theorem dX7_deliver_80 : decode cX7_deliver 80 = .ok (.getfield 26, 3) := by decide +kernel
theorem dX7_deliver_83 : decode cX7_deliver 83 = .ok (.aload_n 2, 1) := by decide +kernel
theorem dX7_deliver_84 : decode cX7_deliver 84 = .ok (.getfield 178, 3) := by decide +kernel
theorem dX7_deliver_87 : decode cX7_deliver 87 = .ok (.invokevirtual 225, 3) := by decide +kernel
theorem dX7_deliver_90 : decode cX7_deliver 90 = .ok (.istore_n 3, 1) := by decide +kernel
theorem dX7_deliver_91 : decode cX7_deliver 91 = .ok (.aload_n 0, 1) := by decide +kernel
theorem dX7_deliver_92 : decode cX7_deliver 92 = .ok (.getfield 26, 3) := by decide +kernel
theorem dX7_deliver_95 : decode cX7_deliver 95 = .ok (.aload_n 0, 1) := by decide +kernel
theorem dX7_deliver_96 : decode cX7_deliver 96 = .ok (.getfield 19, 3) := by decide +kernel
theorem dX7_deliver_99 : decode cX7_deliver 99 = .ok (.invokevirtual 229, 3) := by decide +kernel
theorem dX7_deliver_102 : decode cX7_deliver 102 = .ok (.iload_n 3, 1) := by decide +kernel
theorem dX7_deliver_103 : decode cX7_deliver 103 = .ok (.ireturn, 1) := by decide +kernel
set_option maxRecDepth 20000 in
theorem ggX7_why_X7_orderInHandOf : GoodIn wsX7_why wsX7_orderInHandOf := goodIn_ca (goodIn_ca (goodIn_r _ [6, 7, 8, 9, 10, 5, 11, 12, 13, 14, 15, 16, 17, 18, 62, 63, 64, 65, 66, 67, 68, 69, 70, 71, 72, 73, 74] (by decide +kernel) (by decide +kernel)) (goodIn_sub (fun _ h => List.mem_cons_of_mem _ (List.mem_append_left _ (List.mem_append_right _ h))) (by decide +kernel))) (goodIn_sub (fun _ h => List.mem_cons_of_mem _ (List.mem_append_right _ h)) (by decide +kernel))
set_option maxRecDepth 20000 in
theorem gX7_why_X7_orderInHandOf : GoodIn wsX7_why (wsV RX7 172 RX7 yX7_orderInHandOf wsX7_orderInHandOf) := goodIn_app (goodIn_of _ (by decide +kernel)) ggX7_why_X7_orderInHandOf
set_option maxRecDepth 20000 in
theorem ggX7_why_X3_whyNot : GoodIn wsX7_why wsX3_whyNot := goodIn_r _ [23, 24, 25, 26, 27, 28, 29, 30, 31, 32, 33, 34, 35, 36, 37, 38, 39, 40, 22, 41, 42, 43, 44, 45, 46, 47, 48, 49, 50, 51, 52, 53, 54, 55, 56, 57, 58, 59, 60, 61, 75, 76, 77, 78, 79, 80, 81, 82, 83, 84, 85, 86, 87, 88, 89] (by decide +kernel) (by decide +kernel)
set_option maxRecDepth 20000 in
theorem gX7_why_X3_whyNot : GoodIn wsX7_why (wsV RX7 207 RX3 yX3_whyNot wsX3_whyNot) := goodIn_app (goodIn_of _ (by decide +kernel)) ggX7_why_X3_whyNot
theorem dX7_why_0 : decode cX7_why 0 = .ok (.aload_n 0, 1) := by decide +kernel
theorem dX7_why_1 : decode cX7_why 1 = .ok (.iload_n 1, 1) := by decide +kernel
theorem dX7_why_2 : decode cX7_why 2 = .ok (.invokevirtual 172, 3) := by decide +kernel
theorem dX7_why_5 : decode cX7_why 5 = .ok (.aload_n 0, 1) := by decide +kernel
theorem dX7_why_6 : decode cX7_why 6 = .ok (.getfield 19, 3) := by decide +kernel
theorem dX7_why_9 : decode cX7_why 9 = .ok (.invokevirtual 207, 3) := by decide +kernel
theorem dX7_why_12 : decode cX7_why 12 = .ok (.ireturn, 1) := by decide +kernel
set_option maxRecDepth 20000 in
theorem ggX7_wherefore_X7_orderInHandOf : GoodIn wsX7_wherefore wsX7_orderInHandOf := goodIn_ca (goodIn_ca (goodIn_r _ [6, 7, 8, 9, 10, 5, 11, 12, 13, 14, 15, 16, 17, 18, 62, 63, 64, 65, 66, 67, 68, 69, 70, 71, 72, 73, 74] (by decide +kernel) (by decide +kernel)) (goodIn_sub (fun _ h => List.mem_cons_of_mem _ (List.mem_append_left _ (List.mem_append_right _ h))) (by decide +kernel))) (goodIn_sub (fun _ h => List.mem_cons_of_mem _ (List.mem_append_right _ h)) (by decide +kernel))
set_option maxRecDepth 20000 in
theorem gX7_wherefore_X7_orderInHandOf : GoodIn wsX7_wherefore (wsV RX7 172 RX7 yX7_orderInHandOf wsX7_orderInHandOf) := goodIn_app (goodIn_of _ (by decide +kernel)) ggX7_wherefore_X7_orderInHandOf
set_option maxRecDepth 20000 in
theorem ggX7_wherefore_X3_whereNot : GoodIn wsX7_wherefore wsX3_whereNot := goodIn_r _ [23, 24, 25, 26, 27, 28, 29, 30, 31, 32, 33, 34, 35, 36, 37, 38, 39, 40, 22, 41, 42, 43, 44, 45, 46, 47, 48, 49, 50, 51, 52, 53, 54, 55, 56, 57, 58, 59, 60, 61, 75, 76, 77, 78, 79, 80, 81, 82, 83, 84, 85, 86, 87, 88, 89] (by decide +kernel) (by decide +kernel)
set_option maxRecDepth 20000 in
theorem gX7_wherefore_X3_whereNot : GoodIn wsX7_wherefore (wsV RX7 233 RX3 yX3_whereNot wsX3_whereNot) := goodIn_app (goodIn_of _ (by decide +kernel)) ggX7_wherefore_X3_whereNot
theorem dX7_wherefore_0 : decode cX7_wherefore 0 = .ok (.aload_n 0, 1) := by decide +kernel
theorem dX7_wherefore_1 : decode cX7_wherefore 1 = .ok (.iload_n 1, 1) := by decide +kernel
theorem dX7_wherefore_2 : decode cX7_wherefore 2 = .ok (.invokevirtual 172, 3) := by decide +kernel
theorem dX7_wherefore_5 : decode cX7_wherefore 5 = .ok (.aload_n 0, 1) := by decide +kernel
theorem dX7_wherefore_6 : decode cX7_wherefore 6 = .ok (.getfield 19, 3) := by decide +kernel
theorem dX7_wherefore_9 : decode cX7_wherefore 9 = .ok (.invokevirtual 233, 3) := by decide +kernel
theorem dX7_wherefore_12 : decode cX7_wherefore 12 = .ok (.ireturn, 1) := by decide +kernel
set_option maxRecDepth 20000 in
theorem ggX7_became_X7_orderInHandOf : GoodIn wsX7_became wsX7_orderInHandOf := goodIn_ca (goodIn_ca (goodIn_r _ [5, 6, 7, 8, 9, 4, 10, 11, 12, 13, 14, 15, 16, 17, 44, 45, 46, 47, 48, 49, 50, 51, 52, 53, 54, 55, 56] (by decide +kernel) (by decide +kernel)) (goodIn_sub (fun _ h => List.mem_cons_of_mem _ (List.mem_append_left _ (List.mem_append_left _ (List.mem_append_right _ h)))) (by decide +kernel))) (goodIn_sub (fun _ h => List.mem_cons_of_mem _ (List.mem_append_left _ (List.mem_append_right _ h))) (by decide +kernel))
set_option maxRecDepth 20000 in
theorem gX7_became_X7_orderInHandOf : GoodIn wsX7_became (wsV RX7 172 RX7 yX7_orderInHandOf wsX7_orderInHandOf) := goodIn_app (goodIn_of _ (by decide +kernel)) ggX7_became_X7_orderInHandOf
set_option maxRecDepth 20000 in
theorem ggX7_became_X7_refuseUnlessPlace : GoodIn wsX7_became wsX7_refuseUnlessPlace := goodIn_ca (goodIn_r _ [20, 21, 22, 23, 24, 25, 26, 27, 28, 29, 41, 42, 43, 57, 58] (by decide +kernel) (by decide +kernel)) (goodIn_sub (fun _ h => List.mem_cons_of_mem _ (List.mem_append_right _ h)) (by decide +kernel))
set_option maxRecDepth 20000 in
theorem gX7_became_X7_refuseUnlessPlace : GoodIn wsX7_became (va_wsS RX7 192 yX7_refuseUnlessPlace wsX7_refuseUnlessPlace) := goodIn_app (goodIn_of _ (by decide +kernel)) ggX7_became_X7_refuseUnlessPlace
set_option maxRecDepth 20000 in
theorem ggX7_became_X4_at : GoodIn wsX7_became wsX4_at := goodIn_r _ [33, 28, 29, 57, 58] (by decide +kernel) (by decide +kernel)
set_option maxRecDepth 20000 in
theorem gX7_became_X4_at : GoodIn wsX7_became (wsV RX7 236 RX4 yX4_at wsX4_at) := goodIn_app (goodIn_of _ (by decide +kernel)) ggX7_became_X4_at
theorem dX7_became_0 : decode cX7_became 0 = .ok (.aload_n 0, 1) := by decide +kernel
theorem dX7_became_1 : decode cX7_became 1 = .ok (.iload_n 1, 1) := by decide +kernel
theorem dX7_became_2 : decode cX7_became 2 = .ok (.invokevirtual 172, 3) := by decide +kernel
theorem dX7_became_5 : decode cX7_became 5 = .ok (.getfield 178, 3) := by decide +kernel
theorem dX7_became_8 : decode cX7_became 8 = .ok (.astore_n 3, 1) := by decide +kernel
theorem dX7_became_9 : decode cX7_became 9 = .ok (.aload_n 3, 1) := by decide +kernel
theorem dX7_became_10 : decode cX7_became 10 = .ok (.iload_n 2, 1) := by decide +kernel
theorem dX7_became_11 : decode cX7_became 11 = .ok (.invokestatic 192, 3) := by decide +kernel
theorem dX7_became_14 : decode cX7_became 14 = .ok (.aload_n 3, 1) := by decide +kernel
theorem dX7_became_15 : decode cX7_became 15 = .ok (.getfield 196, 3) := by decide +kernel
theorem dX7_became_18 : decode cX7_became 18 = .ok (.iload_n 2, 1) := by decide +kernel
theorem dX7_became_19 : decode cX7_became 19 = .ok (.invokevirtual 236, 3) := by decide +kernel
theorem dX7_became_22 : decode cX7_became 22 = .ok (.ireturn, 1) := by decide +kernel
set_option maxRecDepth 20000 in
theorem ggX7_match_X7_orderInHandOf : GoodIn wsX7_match wsX7_orderInHandOf := goodIn_ca (goodIn_ca (goodIn_r _ [5, 6, 7, 8, 9, 4, 10, 11, 12, 13, 14, 15, 16, 17, 25, 26, 27, 28, 29, 30, 31, 32, 33, 34, 35, 36, 37] (by decide +kernel) (by decide +kernel)) (goodIn_sub (fun _ h => List.mem_cons_of_mem _ (List.mem_append_left _ (List.mem_append_right _ h))) (by decide +kernel))) (goodIn_sub (fun _ h => List.mem_cons_of_mem _ (List.mem_append_right _ h)) (by decide +kernel))
set_option maxRecDepth 20000 in
theorem gX7_match_X7_orderInHandOf : GoodIn wsX7_match (wsV RX7 172 RX7 yX7_orderInHandOf wsX7_orderInHandOf) := goodIn_app (goodIn_of _ (by decide +kernel)) ggX7_match_X7_orderInHandOf
theorem dX7_match_0 : decode cX7_match 0 = .ok (.aload_n 0, 1) := by decide +kernel
theorem dX7_match_1 : decode cX7_match 1 = .ok (.iload_n 1, 1) := by decide +kernel
theorem dX7_match_2 : decode cX7_match 2 = .ok (.invokevirtual 172, 3) := by decide +kernel
theorem dX7_match_5 : decode cX7_match 5 = .ok (.getfield 175, 3) := by decide +kernel
theorem dX7_match_8 : decode cX7_match 8 = .ok (.ireturn, 1) := by decide +kernel
set_option maxRecDepth 20000 in
theorem ggX7_waiting_X7_deskFor : GoodIn wsX7_waiting wsX7_deskFor := goodIn_r _ [5, 6, 7, 10, 11, 12, 13, 14, 15, 16, 17, 18, 19, 20, 21, 22] (by decide +kernel) (by decide +kernel)
set_option maxRecDepth 20000 in
theorem gX7_waiting_X7_deskFor : GoodIn wsX7_waiting (wsV RX7 131 RX7 yX7_deskFor wsX7_deskFor) := goodIn_app (goodIn_of _ (by decide +kernel)) ggX7_waiting_X7_deskFor
theorem dX7_waiting_0 : decode cX7_waiting 0 = .ok (.aload_n 0, 1) := by decide +kernel
theorem dX7_waiting_1 : decode cX7_waiting 1 = .ok (.iload_n 1, 1) := by decide +kernel
theorem dX7_waiting_2 : decode cX7_waiting 2 = .ok (.invokevirtual 131, 3) := by decide +kernel
theorem dX7_waiting_5 : decode cX7_waiting 5 = .ok (.getfield 145, 3) := by decide +kernel
theorem dX7_waiting_8 : decode cX7_waiting 8 = .ok (.ireturn, 1) := by decide +kernel
set_option maxRecDepth 20000 in
theorem ggX7_orderAt_X7_orderNumbered : GoodIn wsX7_orderAt wsX7_orderNumbered := goodIn_r _ [7, 8, 16, 17, 18, 19, 20, 21, 22, 23, 24, 25, 26, 27, 28] (by decide +kernel) (by decide +kernel)
set_option maxRecDepth 20000 in
theorem gX7_orderAt_X7_orderNumbered : GoodIn wsX7_orderAt (wsV RX7 152 RX7 yX7_orderNumbered wsX7_orderNumbered) := goodIn_app (goodIn_of _ (by decide +kernel)) ggX7_orderAt_X7_orderNumbered
theorem dX7_orderAt_0 : decode cX7_orderAt 0 = .ok (.aload_n 0, 1) := by decide +kernel
theorem dX7_orderAt_1 : decode cX7_orderAt 1 = .ok (.iload_n 1, 1) := by decide +kernel
theorem dX7_orderAt_2 : decode cX7_orderAt 2 = .ok (.invokevirtual 152, 3) := by decide +kernel
theorem dX7_orderAt_5 : decode cX7_orderAt 5 = .ok (.astore_n 2, 1) := by decide +kernel
theorem dX7_orderAt_6 : decode cX7_orderAt 6 = .ok (.aload_n 2, 1) := by decide +kernel
theorem dX7_orderAt_7 : decode cX7_orderAt 7 = .ok (.ifnonnull 11, 3) := by decide +kernel
theorem dX7_orderAt_10 : decode cX7_orderAt 10 = .ok (.new 237, 3) := by decide +kernel
theorem dX7_orderAt_13 : decode cX7_orderAt 13 = .ok (.dup, 1) := by decide +kernel
theorem dX7_orderAt_14 : decode cX7_orderAt 14 = .ok (.invokespecial 239, 3) := by decide +kernel
theorem dX7_orderAt_17 : decode cX7_orderAt 17 = .ok (.athrow, 1) := by decide +kernel
theorem dX7_orderAt_18 : decode cX7_orderAt 18 = .ok (.aload_n 2, 1) := by decide +kernel
theorem dX7_orderAt_19 : decode cX7_orderAt 19 = .ok (.getfield 162, 3) := by decide +kernel
theorem dX7_orderAt_22 : decode cX7_orderAt 22 = .ok (.ireturn, 1) := by decide +kernel
set_option maxRecDepth 20000 in
theorem ggX7_say_X7_refuseUnlessClientAndWord : GoodIn wsX7_say wsX7_refuseUnlessClientAndWord := goodIn_ca (goodIn_r _ [8, 1, 2, 9, 10, 7, 11] (by decide +kernel) (by decide +kernel)) (goodIn_sub (fun _ h => List.mem_cons_of_mem _ (List.mem_append_right _ h)) (by decide +kernel))
set_option maxRecDepth 20000 in
theorem gX7_say_X7_refuseUnlessClientAndWord : GoodIn wsX7_say (va_wsS RX7 240 yX7_refuseUnlessClientAndWord wsX7_refuseUnlessClientAndWord) := goodIn_app (goodIn_of _ (by decide +kernel)) ggX7_say_X7_refuseUnlessClientAndWord
set_option maxRecDepth 20000 in
theorem ggX7_say_X5_slotOf : GoodIn wsX7_say wsX5_slotOf := goodIn_r _ [15] (by decide +kernel) (by decide +kernel)
set_option maxRecDepth 20000 in
theorem gX7_say_X5_slotOf : GoodIn wsX7_say (va_wsS RX7 243 yX5_slotOf wsX5_slotOf) := goodIn_app (goodIn_of _ (by decide +kernel)) ggX7_say_X5_slotOf
set_option maxRecDepth 20000 in
theorem ggX7_say_X5_hear : GoodIn wsX7_say wsX5_hear := goodIn_r _ [19, 20, 21, 22, 23, 24, 25, 14, 26, 27, 28, 29, 30, 111, 112, 113] (by decide +kernel) (by decide +kernel)
set_option maxRecDepth 20000 in
theorem gX7_say_X5_hear : GoodIn wsX7_say (wsV RX7 247 RX5 yX5_hear wsX5_hear) := goodIn_app (goodIn_of _ (by decide +kernel)) ggX7_say_X5_hear
set_option maxRecDepth 20000 in
theorem ggX7_say_X2_listDue : GoodIn wsX7_say wsX2_listDue := goodIn_r _ [35, 36, 37, 38, 39, 40, 41, 42, 43, 44, 45, 46, 47, 48, 49, 50, 51, 34, 52, 53, 54, 55, 56, 57, 58, 59, 60, 61, 62, 63, 64, 65, 66, 67, 68, 69, 70, 71, 72, 73, 74, 75, 14, 76, 20, 77, 13, 15, 78, 79, 80, 81, 82, 83, 84, 85, 86, 87, 88, 89, 90, 104, 105, 106, 107, 108, 109, 110, 114, 115, 116, 117, 118, 111, 112, 113] (by decide +kernel) (by decide +kernel)
set_option maxRecDepth 20000 in
theorem gX7_say_X2_listDue : GoodIn wsX7_say (wsV RX7 229 RX2 yX2_listDue wsX2_listDue) := goodIn_app (goodIn_of _ (by decide +kernel)) ggX7_say_X2_listDue
theorem dX7_say_0 : decode cX7_say 0 = .ok (.iload_n 1, 1) := by decide +kernel
theorem dX7_say_1 : decode cX7_say 1 = .ok (.ifCond .lt 8, 3) := by decide +kernel
theorem dX7_say_4 : decode cX7_say 4 = .ok (.iload_n 1, 1) := by decide +kernel
theorem dX7_say_5 : decode cX7_say 5 = .ok (.iconst 3, 1) := by decide +kernel
theorem dX7_say_6 : decode cX7_say 6 = .ok (.if_icmp .lt 11, 3) := by decide +kernel
theorem dX7_say_9 : decode cX7_say 9 = .ok (.new 69, 3) := by decide +kernel
theorem dX7_say_12 : decode cX7_say 12 = .ok (.dup, 1) := by decide +kernel
theorem dX7_say_13 : decode cX7_say 13 = .ok (.invokespecial 71, 3) := by decide +kernel
theorem dX7_say_16 : decode cX7_say 16 = .ok (.athrow, 1) := by decide +kernel
theorem dX7_say_17 : decode cX7_say 17 = .ok (.iload_n 2, 1) := by decide +kernel
theorem dX7_say_18 : decode cX7_say 18 = .ok (.iload_n 3, 1) := by decide +kernel
theorem dX7_say_19 : decode cX7_say 19 = .ok (.invokestatic 240, 3) := by decide +kernel
theorem dX7_say_22 : decode cX7_say 22 = .ok (.iload 4, 2) := by decide +kernel
theorem dX7_say_24 : decode cX7_say 24 = .ok (.iconst (-1), 1) := by decide +kernel
theorem dX7_say_25 : decode cX7_say 25 = .ok (.if_icmp .lt 10, 3) := by decide +kernel
theorem dX7_say_28 : decode cX7_say 28 = .ok (.iload 4, 2) := by decide +kernel
theorem dX7_say_30 : decode cX7_say 30 = .ok (.bipush 100, 2) := by decide +kernel
theorem dX7_say_32 : decode cX7_say 32 = .ok (.if_icmp .lt 11, 3) := by decide +kernel
theorem dX7_say_35 : decode cX7_say 35 = .ok (.new 69, 3) := by decide +kernel
theorem dX7_say_38 : decode cX7_say 38 = .ok (.dup, 1) := by decide +kernel
theorem dX7_say_39 : decode cX7_say 39 = .ok (.invokespecial 71, 3) := by decide +kernel
theorem dX7_say_42 : decode cX7_say 42 = .ok (.athrow, 1) := by decide +kernel
theorem dX7_say_43 : decode cX7_say 43 = .ok (.aload_n 0, 1) := by decide +kernel
theorem dX7_say_44 : decode cX7_say 44 = .ok (.getfield 19, 3) := by decide +kernel
theorem dX7_say_47 : decode cX7_say 47 = .ok (.iload_n 1, 1) := by decide +kernel
theorem dX7_say_48 : decode cX7_say 48 = .ok (.iload_n 2, 1) := by decide +kernel
theorem dX7_say_49 : decode cX7_say 49 = .ok (.iload_n 3, 1) := by decide +kernel
theorem dX7_say_50 : decode cX7_say 50 = .ok (.invokestatic 243, 3) := by decide +kernel
theorem dX7_say_53 : decode cX7_say 53 = .ok (.iload 4, 2) := by decide +kernel
theorem dX7_say_55 : decode cX7_say 55 = .ok (.aload_n 0, 1) := by decide +kernel
theorem dX7_say_56 : decode cX7_say 56 = .ok (.getfield 26, 3) := by decide +kernel
theorem dX7_say_59 : decode cX7_say 59 = .ok (.getfield 211, 3) := by decide +kernel
theorem dX7_say_62 : decode cX7_say 62 = .ok (.invokevirtual 247, 3) := by decide +kernel
theorem dX7_say_65 : decode cX7_say 65 = .ok (.aload_n 0, 1) := by decide +kernel
theorem dX7_say_66 : decode cX7_say 66 = .ok (.getfield 26, 3) := by decide +kernel
theorem dX7_say_69 : decode cX7_say 69 = .ok (.aload_n 0, 1) := by decide +kernel
theorem dX7_say_70 : decode cX7_say 70 = .ok (.getfield 19, 3) := by decide +kernel
theorem dX7_say_73 : decode cX7_say 73 = .ok (.invokevirtual 229, 3) := by decide +kernel
theorem dX7_say_76 : decode cX7_say 76 = .ok (.aload_n 0, 1) := by decide +kernel
theorem dX7_say_77 : decode cX7_say 77 = .ok (.getfield 26, 3) := by decide +kernel
theorem dX7_say_80 : decode cX7_say 80 = .ok (.getfield 251, 3) := by decide +kernel
theorem dX7_say_83 : decode cX7_say 83 = .ok (.getfield 145, 3) := by decide +kernel
theorem dX7_say_86 : decode cX7_say 86 = .ok (.ireturn, 1) := by decide +kernel
set_option maxRecDepth 20000 in
theorem ggX7_ruling_X7_refuseUnlessClientAndWord : GoodIn wsX7_ruling wsX7_refuseUnlessClientAndWord := goodIn_ca (goodIn_r _ [5, 6, 7, 8, 9, 4, 10] (by decide +kernel) (by decide +kernel)) (goodIn_sub (fun _ h => List.mem_cons_of_mem _ (List.mem_append_right _ h)) (by decide +kernel))
set_option maxRecDepth 20000 in
theorem gX7_ruling_X7_refuseUnlessClientAndWord : GoodIn wsX7_ruling (va_wsS RX7 240 yX7_refuseUnlessClientAndWord wsX7_refuseUnlessClientAndWord) := goodIn_app (goodIn_of _ (by decide +kernel)) ggX7_ruling_X7_refuseUnlessClientAndWord
set_option maxRecDepth 20000 in
theorem ggX7_ruling_X5_rulingOf : GoodIn wsX7_ruling wsX5_rulingOf := goodIn_r _ [15, 16, 17, 18, 14, 19, 33, 34, 35] (by decide +kernel) (by decide +kernel)
set_option maxRecDepth 20000 in
theorem gX7_ruling_X5_rulingOf : GoodIn wsX7_ruling (wsV RX7 254 RX5 yX5_rulingOf wsX5_rulingOf) := goodIn_app (goodIn_of _ (by decide +kernel)) ggX7_ruling_X5_rulingOf
theorem dX7_ruling_0 : decode cX7_ruling 0 = .ok (.iload_n 1, 1) := by decide +kernel
theorem dX7_ruling_1 : decode cX7_ruling 1 = .ok (.iload_n 2, 1) := by decide +kernel
theorem dX7_ruling_2 : decode cX7_ruling 2 = .ok (.invokestatic 240, 3) := by decide +kernel
theorem dX7_ruling_5 : decode cX7_ruling 5 = .ok (.aload_n 0, 1) := by decide +kernel
theorem dX7_ruling_6 : decode cX7_ruling 6 = .ok (.getfield 19, 3) := by decide +kernel
theorem dX7_ruling_9 : decode cX7_ruling 9 = .ok (.iload_n 1, 1) := by decide +kernel
theorem dX7_ruling_10 : decode cX7_ruling 10 = .ok (.iload_n 2, 1) := by decide +kernel
theorem dX7_ruling_11 : decode cX7_ruling 11 = .ok (.invokevirtual 254, 3) := by decide +kernel
theorem dX7_ruling_14 : decode cX7_ruling 14 = .ok (.ireturn, 1) := by decide +kernel
theorem dX7_sold_0 : decode cX7_sold 0 = .ok (.aload_n 0, 1) := by decide +kernel
theorem dX7_sold_1 : decode cX7_sold 1 = .ok (.getfield 26, 3) := by decide +kernel
theorem dX7_sold_4 : decode cX7_sold 4 = .ok (.getfield 211, 3) := by decide +kernel
theorem dX7_sold_7 : decode cX7_sold 7 = .ok (.ireturn, 1) := by decide +kernel
set_option maxRecDepth 20000 in
theorem ggX7_clientOf_X7_soldSentence : GoodIn wsX7_clientOf wsX7_soldSentence := goodIn_ca (goodIn_r _ [5, 6, 7, 8, 9, 10, 11, 12, 13, 14, 18, 19, 20, 21, 22, 23, 24, 25, 26, 27, 28, 29, 30, 31, 32, 33, 34, 35] (by decide +kernel) (by decide +kernel)) (goodIn_sub (fun _ h => List.mem_cons_of_mem _ (List.mem_append_right _ h)) (by decide +kernel))
set_option maxRecDepth 20000 in
theorem gX7_clientOf_X7_soldSentence : GoodIn wsX7_clientOf (wsV RX7 82 RX7 yX7_soldSentence wsX7_soldSentence) := goodIn_app (goodIn_of _ (by decide +kernel)) ggX7_clientOf_X7_soldSentence
theorem dX7_clientOf_0 : decode cX7_clientOf 0 = .ok (.aload_n 0, 1) := by decide +kernel
theorem dX7_clientOf_1 : decode cX7_clientOf 1 = .ok (.iload_n 1, 1) := by decide +kernel
theorem dX7_clientOf_2 : decode cX7_clientOf 2 = .ok (.invokevirtual 82, 3) := by decide +kernel
theorem dX7_clientOf_5 : decode cX7_clientOf 5 = .ok (.getfield 212, 3) := by decide +kernel
theorem dX7_clientOf_8 : decode cX7_clientOf 8 = .ok (.ireturn, 1) := by decide +kernel
set_option maxRecDepth 20000 in
theorem ggX7_wordOf_X7_soldSentence : GoodIn wsX7_wordOf wsX7_soldSentence := goodIn_ca (goodIn_r _ [5, 6, 7, 8, 9, 10, 11, 12, 13, 14, 32, 33, 34, 35, 36, 37, 38, 39, 40, 41, 42, 43, 44, 45, 46, 47, 48, 49] (by decide +kernel) (by decide +kernel)) (goodIn_sub (fun _ h => List.mem_cons_of_mem _ (List.mem_append_right _ h)) (by decide +kernel))
set_option maxRecDepth 20000 in
theorem gX7_wordOf_X7_soldSentence : GoodIn wsX7_wordOf (wsV RX7 82 RX7 yX7_soldSentence wsX7_soldSentence) := goodIn_app (goodIn_of _ (by decide +kernel)) ggX7_wordOf_X7_soldSentence
set_option maxRecDepth 20000 in
theorem ggX7_wordOf_X7_refuseUnlessPlace : GoodIn wsX7_wordOf wsX7_refuseUnlessPlace := goodIn_ca (goodIn_r _ [17, 6, 7, 18, 19, 20, 21, 22, 23, 24, 29, 30, 31, 50, 51] (by decide +kernel) (by decide +kernel)) (goodIn_sub (fun _ h => List.mem_cons_of_mem _ (List.mem_append_right _ h)) (by decide +kernel))
set_option maxRecDepth 20000 in
theorem gX7_wordOf_X7_refuseUnlessPlace : GoodIn wsX7_wordOf (va_wsS RX7 192 yX7_refuseUnlessPlace wsX7_refuseUnlessPlace) := goodIn_app (goodIn_of _ (by decide +kernel)) ggX7_wordOf_X7_refuseUnlessPlace
set_option maxRecDepth 20000 in
theorem ggX7_wordOf_X4_at : GoodIn wsX7_wordOf wsX4_at := goodIn_r _ [28, 23, 24, 50, 51] (by decide +kernel) (by decide +kernel)
set_option maxRecDepth 20000 in
theorem gX7_wordOf_X4_at : GoodIn wsX7_wordOf (wsV RX7 236 RX4 yX4_at wsX4_at) := goodIn_app (goodIn_of _ (by decide +kernel)) ggX7_wordOf_X4_at
theorem dX7_wordOf_0 : decode cX7_wordOf 0 = .ok (.aload_n 0, 1) := by decide +kernel
theorem dX7_wordOf_1 : decode cX7_wordOf 1 = .ok (.iload_n 1, 1) := by decide +kernel
theorem dX7_wordOf_2 : decode cX7_wordOf 2 = .ok (.invokevirtual 82, 3) := by decide +kernel
theorem dX7_wordOf_5 : decode cX7_wordOf 5 = .ok (.astore_n 3, 1) := by decide +kernel
theorem dX7_wordOf_6 : decode cX7_wordOf 6 = .ok (.aload_n 3, 1) := by decide +kernel
theorem dX7_wordOf_7 : decode cX7_wordOf 7 = .ok (.iload_n 2, 1) := by decide +kernel
theorem dX7_wordOf_8 : decode cX7_wordOf 8 = .ok (.invokestatic 192, 3) := by decide +kernel
theorem dX7_wordOf_11 : decode cX7_wordOf 11 = .ok (.aload_n 3, 1) := by decide +kernel
theorem dX7_wordOf_12 : decode cX7_wordOf 12 = .ok (.getfield 93, 3) := by decide +kernel
theorem dX7_wordOf_15 : decode cX7_wordOf 15 = .ok (.iload_n 2, 1) := by decide +kernel
theorem dX7_wordOf_16 : decode cX7_wordOf 16 = .ok (.invokevirtual 236, 3) := by decide +kernel
theorem dX7_wordOf_19 : decode cX7_wordOf 19 = .ok (.ireturn, 1) := by decide +kernel
set_option maxRecDepth 20000 in
theorem ggX7_becameOf_X7_soldSentence : GoodIn wsX7_becameOf wsX7_soldSentence := goodIn_ca (goodIn_r _ [5, 6, 7, 8, 9, 10, 11, 12, 13, 14, 32, 33, 34, 35, 36, 37, 38, 39, 40, 41, 42, 43, 44, 45, 46, 47, 48, 49] (by decide +kernel) (by decide +kernel)) (goodIn_sub (fun _ h => List.mem_cons_of_mem _ (List.mem_append_right _ h)) (by decide +kernel))
set_option maxRecDepth 20000 in
theorem gX7_becameOf_X7_soldSentence : GoodIn wsX7_becameOf (wsV RX7 82 RX7 yX7_soldSentence wsX7_soldSentence) := goodIn_app (goodIn_of _ (by decide +kernel)) ggX7_becameOf_X7_soldSentence
set_option maxRecDepth 20000 in
theorem ggX7_becameOf_X7_refuseUnlessPlace : GoodIn wsX7_becameOf wsX7_refuseUnlessPlace := goodIn_ca (goodIn_r _ [17, 6, 7, 18, 19, 20, 21, 22, 23, 24, 29, 30, 31, 50, 51] (by decide +kernel) (by decide +kernel)) (goodIn_sub (fun _ h => List.mem_cons_of_mem _ (List.mem_append_right _ h)) (by decide +kernel))
set_option maxRecDepth 20000 in
theorem gX7_becameOf_X7_refuseUnlessPlace : GoodIn wsX7_becameOf (va_wsS RX7 192 yX7_refuseUnlessPlace wsX7_refuseUnlessPlace) := goodIn_app (goodIn_of _ (by decide +kernel)) ggX7_becameOf_X7_refuseUnlessPlace
set_option maxRecDepth 20000 in
theorem ggX7_becameOf_X4_at : GoodIn wsX7_becameOf wsX4_at := goodIn_r _ [28, 23, 24, 50, 51] (by decide +kernel) (by decide +kernel)
set_option maxRecDepth 20000 in
theorem gX7_becameOf_X4_at : GoodIn wsX7_becameOf (wsV RX7 236 RX4 yX4_at wsX4_at) := goodIn_app (goodIn_of _ (by decide +kernel)) ggX7_becameOf_X4_at
theorem dX7_becameOf_0 : decode cX7_becameOf 0 = .ok (.aload_n 0, 1) := by decide +kernel
theorem dX7_becameOf_1 : decode cX7_becameOf 1 = .ok (.iload_n 1, 1) := by decide +kernel
theorem dX7_becameOf_2 : decode cX7_becameOf 2 = .ok (.invokevirtual 82, 3) := by decide +kernel
theorem dX7_becameOf_5 : decode cX7_becameOf 5 = .ok (.astore_n 3, 1) := by decide +kernel
theorem dX7_becameOf_6 : decode cX7_becameOf 6 = .ok (.aload_n 3, 1) := by decide +kernel
theorem dX7_becameOf_7 : decode cX7_becameOf 7 = .ok (.iload_n 2, 1) := by decide +kernel
theorem dX7_becameOf_8 : decode cX7_becameOf 8 = .ok (.invokestatic 192, 3) := by decide +kernel
theorem dX7_becameOf_11 : decode cX7_becameOf 11 = .ok (.aload_n 3, 1) := by decide +kernel
theorem dX7_becameOf_12 : decode cX7_becameOf 12 = .ok (.getfield 196, 3) := by decide +kernel
theorem dX7_becameOf_15 : decode cX7_becameOf 15 = .ok (.iload_n 2, 1) := by decide +kernel
theorem dX7_becameOf_16 : decode cX7_becameOf 16 = .ok (.invokevirtual 236, 3) := by decide +kernel
theorem dX7_becameOf_19 : decode cX7_becameOf 19 = .ok (.ireturn, 1) := by decide +kernel
set_option maxRecDepth 20000 in
theorem ggX7_isDue_X7_soldSentence : GoodIn wsX7_isDue wsX7_soldSentence := goodIn_ca (goodIn_r _ [6, 7, 8, 9, 10, 11, 12, 13, 14, 15, 44, 45, 46, 47, 48, 49, 50, 51, 52, 53, 54, 55, 56, 57, 58, 59, 60, 61] (by decide +kernel) (by decide +kernel)) (goodIn_sub (fun _ h => List.mem_cons_of_mem _ (List.mem_append_right _ h)) (by decide +kernel))
set_option maxRecDepth 20000 in
theorem gX7_isDue_X7_soldSentence : GoodIn wsX7_isDue (wsV RX7 82 RX7 yX7_soldSentence wsX7_soldSentence) := goodIn_app (goodIn_of _ (by decide +kernel)) ggX7_isDue_X7_soldSentence
set_option maxRecDepth 20000 in
theorem ggX7_isDue_X6_firstAstray : GoodIn wsX7_isDue wsX6_firstAstray := goodIn_r _ [20, 21, 22, 23, 24, 19, 25, 26, 27, 28, 29, 30, 31, 32, 33, 34, 35, 36, 37, 38, 39, 40, 41, 42, 43, 62, 63, 64, 65, 66, 67, 68, 69] (by decide +kernel) (by decide +kernel)
set_option maxRecDepth 20000 in
theorem gX7_isDue_X6_firstAstray : GoodIn wsX7_isDue (wsV RX7 257 RX6 yX6_firstAstray wsX6_firstAstray) := goodIn_app (goodIn_of _ (by decide +kernel)) ggX7_isDue_X6_firstAstray
theorem dX7_isDue_0 : decode cX7_isDue 0 = .ok (.aload_n 0, 1) := by decide +kernel
theorem dX7_isDue_1 : decode cX7_isDue 1 = .ok (.iload_n 1, 1) := by decide +kernel
theorem dX7_isDue_2 : decode cX7_isDue 2 = .ok (.invokevirtual 82, 3) := by decide +kernel
theorem dX7_isDue_5 : decode cX7_isDue 5 = .ok (.aload_n 0, 1) := by decide +kernel
theorem dX7_isDue_6 : decode cX7_isDue 6 = .ok (.getfield 19, 3) := by decide +kernel
theorem dX7_isDue_9 : decode cX7_isDue 9 = .ok (.invokevirtual 257, 3) := by decide +kernel
theorem dX7_isDue_12 : decode cX7_isDue 12 = .ok (.iconst (-1), 1) := by decide +kernel
theorem dX7_isDue_13 : decode cX7_isDue 13 = .ok (.if_icmp .eq 7, 3) := by decide +kernel
theorem dX7_isDue_16 : decode cX7_isDue 16 = .ok (.iconst 1, 1) := by decide +kernel
theorem dX7_isDue_17 : decode cX7_isDue 17 = .ok (.goto 4, 3) := by decide +kernel
theorem dX7_isDue_20 : decode cX7_isDue 20 = .ok (.iconst 0, 1) := by decide +kernel
theorem dX7_isDue_21 : decode cX7_isDue 21 = .ok (.ireturn, 1) := by decide +kernel
theorem dX7_due_0 : decode cX7_due 0 = .ok (.aload_n 0, 1) := by decide +kernel
theorem dX7_due_1 : decode cX7_due 1 = .ok (.getfield 26, 3) := by decide +kernel
theorem dX7_due_4 : decode cX7_due 4 = .ok (.getfield 251, 3) := by decide +kernel
theorem dX7_due_7 : decode cX7_due 7 = .ok (.getfield 145, 3) := by decide +kernel
theorem dX7_due_10 : decode cX7_due 10 = .ok (.ireturn, 1) := by decide +kernel
set_option maxRecDepth 20000 in
theorem ggX7_dueAt_X1_hasPlace : GoodIn wsX7_dueAt wsX1_hasPlace := goodIn_r _ [8, 9, 10, 34, 35] (by decide +kernel) (by decide +kernel)
set_option maxRecDepth 20000 in
theorem gX7_dueAt_X1_hasPlace : GoodIn wsX7_dueAt (wsV RX7 260 RX1 yX1_hasPlace wsX1_hasPlace) := goodIn_app (goodIn_of _ (by decide +kernel)) ggX7_dueAt_X1_hasPlace
set_option maxRecDepth 20000 in
theorem ggX7_dueAt_X1_at : GoodIn wsX7_dueAt wsX1_at := goodIn_r _ [14, 10, 15, 5, 6, 7, 8, 9, 34, 35] (by decide +kernel) (by decide +kernel)
set_option maxRecDepth 20000 in
theorem gX7_dueAt_X1_at : GoodIn wsX7_dueAt (wsV RX7 148 RX1 yX1_at wsX1_at) := goodIn_app (goodIn_of _ (by decide +kernel)) ggX7_dueAt_X1_at
theorem dX7_dueAt_0 : decode cX7_dueAt 0 = .ok (.aload_n 0, 1) := by decide +kernel
theorem dX7_dueAt_1 : decode cX7_dueAt 1 = .ok (.getfield 26, 3) := by decide +kernel
theorem dX7_dueAt_4 : decode cX7_dueAt 4 = .ok (.getfield 251, 3) := by decide +kernel
theorem dX7_dueAt_7 : decode cX7_dueAt 7 = .ok (.iload_n 1, 1) := by decide +kernel
theorem dX7_dueAt_8 : decode cX7_dueAt 8 = .ok (.invokevirtual 260, 3) := by decide +kernel
theorem dX7_dueAt_11 : decode cX7_dueAt 11 = .ok (.ifCond .ne 11, 3) := by decide +kernel
theorem dX7_dueAt_14 : decode cX7_dueAt 14 = .ok (.new 237, 3) := by decide +kernel
theorem dX7_dueAt_17 : decode cX7_dueAt 17 = .ok (.dup, 1) := by decide +kernel
theorem dX7_dueAt_18 : decode cX7_dueAt 18 = .ok (.invokespecial 239, 3) := by decide +kernel
theorem dX7_dueAt_21 : decode cX7_dueAt 21 = .ok (.athrow, 1) := by decide +kernel
theorem dX7_dueAt_22 : decode cX7_dueAt 22 = .ok (.aload_n 0, 1) := by decide +kernel
theorem dX7_dueAt_23 : decode cX7_dueAt 23 = .ok (.getfield 26, 3) := by decide +kernel
theorem dX7_dueAt_26 : decode cX7_dueAt 26 = .ok (.getfield 251, 3) := by decide +kernel
theorem dX7_dueAt_29 : decode cX7_dueAt 29 = .ok (.iload_n 1, 1) := by decide +kernel
theorem dX7_dueAt_30 : decode cX7_dueAt 30 = .ok (.invokevirtual 148, 3) := by decide +kernel
theorem dX7_dueAt_33 : decode cX7_dueAt 33 = .ok (.ireturn, 1) := by decide +kernel
set_option maxRecDepth 20000 in
theorem ggX7_mend_X7_soldSentence : GoodIn wsX7_mend wsX7_soldSentence := goodIn_ca (goodIn_r _ [10, 11, 12, 5, 13, 14, 15, 16, 17, 18, 102, 103, 104, 105, 106, 107, 108, 109, 110, 111, 112, 113, 114, 120, 121, 122, 123, 124] (by decide +kernel) (by decide +kernel)) (goodIn_sub (fun _ h => List.mem_cons_of_mem _ (List.mem_append_right _ h)) (by decide +kernel))
set_option maxRecDepth 20000 in
theorem gX7_mend_X7_soldSentence : GoodIn wsX7_mend (wsV RX7 82 RX7 yX7_soldSentence wsX7_soldSentence) := goodIn_app (goodIn_of _ (by decide +kernel)) ggX7_mend_X7_soldSentence
set_option maxRecDepth 20000 in
theorem ggX7_mend_X6_firstAstray : GoodIn wsX7_mend wsX6_firstAstray := goodIn_r _ [23, 24, 25, 26, 27, 22, 28, 29, 30, 31, 32, 33, 34, 35, 36, 37, 38, 39, 40, 41, 42, 43, 44, 45, 46, 115, 116, 117, 118, 119, 125, 126, 127] (by decide +kernel) (by decide +kernel)
set_option maxRecDepth 20000 in
theorem gX7_mend_X6_firstAstray : GoodIn wsX7_mend (wsV RX7 257 RX6 yX6_firstAstray wsX6_firstAstray) := goodIn_app (goodIn_of _ (by decide +kernel)) ggX7_mend_X6_firstAstray
set_option maxRecDepth 20000 in
theorem ggX7_mend_X6_isAstrayAt : GoodIn wsX7_mend wsX6_isAstrayAt := goodIn_r _ [28, 29, 24, 30, 31, 32, 33, 34, 35, 36, 37, 38, 39, 40, 41, 42, 43, 44, 45, 46, 115, 116, 117, 118, 119, 125, 126, 127] (by decide +kernel) (by decide +kernel)
set_option maxRecDepth 20000 in
theorem gX7_mend_X6_isAstrayAt : GoodIn wsX7_mend (wsV RX7 264 RX6 yX6_isAstrayAt wsX6_isAstrayAt) := goodIn_app (goodIn_of _ (by decide +kernel)) ggX7_mend_X6_isAstrayAt
set_option maxRecDepth 20000 in
theorem ggX7_mend_X4_at : GoodIn wsX7_mend wsX4_at := goodIn_r _ [35, 36, 37, 118, 119] (by decide +kernel) (by decide +kernel)
set_option maxRecDepth 20000 in
theorem gX7_mend_X4_at : GoodIn wsX7_mend (wsV RX7 236 RX4 yX4_at wsX4_at) := goodIn_app (goodIn_of _ (by decide +kernel)) ggX7_mend_X4_at
set_option maxRecDepth 20000 in
theorem ggX7_mend_X7_mendingPrice : GoodIn wsX7_mend wsX7_mendingPrice := goodIn_r _ [52, 3, 53, 54, 55, 41, 56, 57, 44, 45, 46, 102, 103, 104, 105, 106, 107, 108, 109, 110, 111, 112, 113, 114, 125, 126, 127] (by decide +kernel) (by decide +kernel)
set_option maxRecDepth 20000 in
theorem gX7_mend_X7_mendingPrice : GoodIn wsX7_mend (wsV RX7 268 RX7 yX7_mendingPrice wsX7_mendingPrice) := goodIn_app (goodIn_of _ (by decide +kernel)) ggX7_mend_X7_mendingPrice
set_option maxRecDepth 20000 in
theorem ggX7_mend_X7_addTo : GoodIn wsX7_mend wsX7_addTo := goodIn_r _ [60] (by decide +kernel) (by decide +kernel)
set_option maxRecDepth 20000 in
theorem gX7_mend_X7_addTo : GoodIn wsX7_mend (va_wsS RX7 218 yX7_addTo wsX7_addTo) := goodIn_app (goodIn_of _ (by decide +kernel)) ggX7_mend_X7_addTo
set_option maxRecDepth 20000 in
theorem ggX7_mend_X5_rulingOf : GoodIn wsX7_mend wsX5_rulingOf := goodIn_r _ [42, 43, 44, 45, 41, 46, 125, 126, 127] (by decide +kernel) (by decide +kernel)
set_option maxRecDepth 20000 in
theorem gX7_mend_X5_rulingOf : GoodIn wsX7_mend (wsV RX7 254 RX5 yX5_rulingOf wsX5_rulingOf) := goodIn_app (goodIn_of _ (by decide +kernel)) ggX7_mend_X5_rulingOf
set_option maxRecDepth 20000 in
theorem ggX7_mend_X4_put : GoodIn wsX7_mend wsX4_put := goodIn_r _ [65, 37, 66, 67, 68, 34, 69, 36, 118, 119] (by decide +kernel) (by decide +kernel)
set_option maxRecDepth 20000 in
theorem gX7_mend_X4_put : GoodIn wsX7_mend (wsV RX7 199 RX4 yX4_put wsX4_put) := goodIn_app (goodIn_of _ (by decide +kernel)) ggX7_mend_X4_put
set_option maxRecDepth 20000 in
theorem ggX7_mend_X2_listDue : GoodIn wsX7_mend wsX2_listDue := goodIn_r _ [73, 74, 75, 76, 77, 78, 79, 80, 81, 82, 83, 84, 85, 86, 87, 14, 15, 16, 17, 18, 88, 20, 21, 22, 23, 24, 25, 26, 27, 28, 29, 30, 31, 32, 33, 34, 35, 36, 37, 38, 39, 40, 41, 42, 43, 44, 45, 46, 89, 90, 91, 92, 93, 94, 95, 96, 97, 98, 99, 100, 101, 120, 121, 122, 123, 124, 128, 129, 115, 116, 117, 118, 119, 125, 126, 127] (by decide +kernel) (by decide +kernel)
set_option maxRecDepth 20000 in
theorem gX7_mend_X2_listDue : GoodIn wsX7_mend (wsV RX7 229 RX2 yX2_listDue wsX2_listDue) := goodIn_app (goodIn_of _ (by decide +kernel)) ggX7_mend_X2_listDue
theorem dX7_mend_0 : decode cX7_mend 0 = .ok (.aload_n 0, 1) := by decide +kernel
theorem dX7_mend_1 : decode cX7_mend 1 = .ok (.iload_n 1, 1) := by decide +kernel
theorem dX7_mend_2 : decode cX7_mend 2 = .ok (.invokevirtual 82, 3) := by decide +kernel
theorem dX7_mend_5 : decode cX7_mend 5 = .ok (.astore_n 2, 1) := by decide +kernel
theorem dX7_mend_6 : decode cX7_mend 6 = .ok (.aload_n 2, 1) := by decide +kernel
theorem dX7_mend_7 : decode cX7_mend 7 = .ok (.aload_n 0, 1) := by decide +kernel
theorem dX7_mend_8 : decode cX7_mend 8 = .ok (.getfield 19, 3) := by decide +kernel
theorem dX7_mend_11 : decode cX7_mend 11 = .ok (.invokevirtual 257, 3) := by decide +kernel
theorem dX7_mend_14 : decode cX7_mend 14 = .ok (.iconst (-1), 1) := by decide +kernel
theorem dX7_mend_15 : decode cX7_mend 15 = .ok (.if_icmp .ne 11, 3) := by decide +kernel
theorem dX7_mend_18 : decode cX7_mend 18 = .ok (.new 75, 3) := by decide +kernel
theorem dX7_mend_21 : decode cX7_mend 21 = .ok (.dup, 1) := by decide +kernel
theorem dX7_mend_22 : decode cX7_mend 22 = .ok (.invokespecial 77, 3) := by decide +kernel
theorem dX7_mend_25 : decode cX7_mend 25 = .ok (.athrow, 1) := by decide +kernel
theorem dX7_mend_26 : decode cX7_mend 26 = .ok (.iconst 0, 1) := by decide +kernel
theorem dX7_mend_27 : decode cX7_mend 27 = .ok (.istore_n 3, 1) := by decide +kernel
theorem dX7_mend_28 : decode cX7_mend 28 = .ok (.iconst 0, 1) := by decide +kernel
theorem dX7_mend_29 : decode cX7_mend 29 = .ok (.istore 4, 2) := by decide +kernel
theorem dX7_mend_31 : decode cX7_mend 31 = .ok (.iload 4, 2) := by decide +kernel
theorem dX7_mend_33 : decode cX7_mend 33 = .ok (.aload_n 2, 1) := by decide +kernel
theorem dX7_mend_34 : decode cX7_mend 34 = .ok (.getfield 93, 3) := by decide +kernel
theorem dX7_mend_37 : decode cX7_mend 37 = .ok (.getfield 72, 3) := by decide +kernel
theorem dX7_mend_40 : decode cX7_mend 40 = .ok (.if_icmp .ge 83, 3) := by decide +kernel
theorem dX7_mend_43 : decode cX7_mend 43 = .ok (.aload_n 2, 1) := by decide +kernel
theorem dX7_mend_44 : decode cX7_mend 44 = .ok (.iload 4, 2) := by decide +kernel
theorem dX7_mend_46 : decode cX7_mend 46 = .ok (.aload_n 0, 1) := by decide +kernel
theorem dX7_mend_47 : decode cX7_mend 47 = .ok (.getfield 19, 3) := by decide +kernel
theorem dX7_mend_50 : decode cX7_mend 50 = .ok (.invokevirtual 264, 3) := by decide +kernel
theorem dX7_mend_53 : decode cX7_mend 53 = .ok (.ifCond .eq 64, 3) := by decide +kernel
theorem dX7_mend_56 : decode cX7_mend 56 = .ok (.aload_n 0, 1) := by decide +kernel
theorem dX7_mend_57 : decode cX7_mend 57 = .ok (.getfield 49, 3) := by decide +kernel
theorem dX7_mend_60 : decode cX7_mend 60 = .ok (.aload_n 2, 1) := by decide +kernel
theorem dX7_mend_61 : decode cX7_mend 61 = .ok (.getfield 212, 3) := by decide +kernel
theorem dX7_mend_64 : decode cX7_mend 64 = .ok (.aload_n 0, 1) := by decide +kernel
theorem dX7_mend_65 : decode cX7_mend 65 = .ok (.iload_n 1, 1) := by decide +kernel
theorem dX7_mend_66 : decode cX7_mend 66 = .ok (.aload_n 2, 1) := by decide +kernel
theorem dX7_mend_67 : decode cX7_mend 67 = .ok (.getfield 212, 3) := by decide +kernel
theorem dX7_mend_70 : decode cX7_mend 70 = .ok (.aload_n 2, 1) := by decide +kernel
theorem dX7_mend_71 : decode cX7_mend 71 = .ok (.getfield 93, 3) := by decide +kernel
theorem dX7_mend_74 : decode cX7_mend 74 = .ok (.iload 4, 2) := by decide +kernel
theorem dX7_mend_76 : decode cX7_mend 76 = .ok (.invokevirtual 236, 3) := by decide +kernel
theorem dX7_mend_79 : decode cX7_mend 79 = .ok (.invokevirtual 268, 3) := by decide +kernel
theorem dX7_mend_82 : decode cX7_mend 82 = .ok (.invokestatic 218, 3) := by decide +kernel
theorem dX7_mend_85 : decode cX7_mend 85 = .ok (.aload_n 2, 1) := by decide +kernel
theorem dX7_mend_86 : decode cX7_mend 86 = .ok (.getfield 196, 3) := by decide +kernel
theorem dX7_mend_89 : decode cX7_mend 89 = .ok (.iload 4, 2) := by decide +kernel
theorem dX7_mend_91 : decode cX7_mend 91 = .ok (.aload_n 0, 1) := by decide +kernel
theorem dX7_mend_92 : decode cX7_mend 92 = .ok (.getfield 19, 3) := by decide +kernel
theorem dX7_mend_95 : decode cX7_mend 95 = .ok (.aload_n 2, 1) := by decide +kernel
theorem dX7_mend_96 : decode cX7_mend 96 = .ok (.getfield 212, 3) := by decide +kernel
theorem dX7_mend_99 : decode cX7_mend 99 = .ok (.aload_n 2, 1) := by decide +kernel
theorem dX7_mend_100 : decode cX7_mend 100 = .ok (.getfield 93, 3) := by decide +kernel
theorem dX7_mend_103 : decode cX7_mend 103 = .ok (.iload 4, 2) := by decide +kernel
theorem dX7_mend_105 : decode cX7_mend 105 = .ok (.invokevirtual 236, 3) := by decide +kernel
theorem dX7_mend_108 : decode cX7_mend 108 = .ok (.invokevirtual 254, 3) := by decide +kernel
theorem dX7_mend_111 : decode cX7_mend 111 = .ok (.invokevirtual 199, 3) := by decide +kernel
theorem dX7_mend_114 : decode cX7_mend 114 = .ok (.iinc 3 1, 3) := by decide +kernel
theorem dX7_mend_117 : decode cX7_mend 117 = .ok (.iinc 4 1, 3) := by decide +kernel
theorem dX7_mend_120 : decode cX7_mend 120 = .ok (.goto (-89), 3) := by decide +kernel
theorem dX7_mend_123 : decode cX7_mend 123 = .ok (.aload_n 0, 1) := by decide +kernel
theorem dX7_mend_124 : decode cX7_mend 124 = .ok (.getfield 26, 3) := by decide +kernel
theorem dX7_mend_127 : decode cX7_mend 127 = .ok (.aload_n 0, 1) := by decide +kernel
theorem dX7_mend_128 : decode cX7_mend 128 = .ok (.getfield 19, 3) := by decide +kernel
theorem dX7_mend_131 : decode cX7_mend 131 = .ok (.invokevirtual 229, 3) := by decide +kernel
theorem dX7_mend_134 : decode cX7_mend 134 = .ok (.iload_n 3, 1) := by decide +kernel
theorem dX7_mend_135 : decode cX7_mend 135 = .ok (.ireturn, 1) := by decide +kernel
theorem dX7_setPrices_0 : decode cX7_setPrices 0 = .ok (.iload_n 1, 1) := by decide +kernel
theorem dX7_setPrices_1 : decode cX7_setPrices 1 = .ok (.iconst 1, 1) := by decide +kernel
theorem dX7_setPrices_2 : decode cX7_setPrices 2 = .ok (.if_icmp .lt 9, 3) := by decide +kernel
theorem dX7_setPrices_5 : decode cX7_setPrices 5 = .ok (.iload_n 1, 1) := by decide +kernel
theorem dX7_setPrices_6 : decode cX7_setPrices 6 = .ok (.bipush 100, 2) := by decide +kernel
theorem dX7_setPrices_8 : decode cX7_setPrices 8 = .ok (.if_icmp .le 11, 3) := by decide +kernel
theorem dX7_setPrices_11 : decode cX7_setPrices 11 = .ok (.new 69, 3) := by decide +kernel
theorem dX7_setPrices_14 : decode cX7_setPrices 14 = .ok (.dup, 1) := by decide +kernel
theorem dX7_setPrices_15 : decode cX7_setPrices 15 = .ok (.invokespecial 71, 3) := by decide +kernel
theorem dX7_setPrices_18 : decode cX7_setPrices 18 = .ok (.athrow, 1) := by decide +kernel
theorem dX7_setPrices_19 : decode cX7_setPrices 19 = .ok (.iload_n 2, 1) := by decide +kernel
theorem dX7_setPrices_20 : decode cX7_setPrices 20 = .ok (.ifCond .lt 19, 3) := by decide +kernel
theorem dX7_setPrices_23 : decode cX7_setPrices 23 = .ok (.iload_n 2, 1) := by decide +kernel
theorem dX7_setPrices_24 : decode cX7_setPrices 24 = .ok (.bipush 100, 2) := by decide +kernel
theorem dX7_setPrices_26 : decode cX7_setPrices 26 = .ok (.if_icmp .gt 13, 3) := by decide +kernel
theorem dX7_setPrices_29 : decode cX7_setPrices 29 = .ok (.iload_n 3, 1) := by decide +kernel
theorem dX7_setPrices_30 : decode cX7_setPrices 30 = .ok (.ifCond .lt 9, 3) := by decide +kernel
theorem dX7_setPrices_33 : decode cX7_setPrices 33 = .ok (.iload_n 3, 1) := by decide +kernel
theorem dX7_setPrices_34 : decode cX7_setPrices 34 = .ok (.bipush 100, 2) := by decide +kernel
theorem dX7_setPrices_36 : decode cX7_setPrices 36 = .ok (.if_icmp .le 11, 3) := by decide +kernel
theorem dX7_setPrices_39 : decode cX7_setPrices 39 = .ok (.new 69, 3) := by decide +kernel
theorem dX7_setPrices_42 : decode cX7_setPrices 42 = .ok (.dup, 1) := by decide +kernel
theorem dX7_setPrices_43 : decode cX7_setPrices 43 = .ok (.invokespecial 71, 3) := by decide +kernel
theorem dX7_setPrices_46 : decode cX7_setPrices 46 = .ok (.athrow, 1) := by decide +kernel
theorem dX7_setPrices_47 : decode cX7_setPrices 47 = .ok (.aload_n 0, 1) := by decide +kernel
theorem dX7_setPrices_48 : decode cX7_setPrices 48 = .ok (.iload_n 1, 1) := by decide +kernel
theorem dX7_setPrices_49 : decode cX7_setPrices 49 = .ok (.putfield 60, 3) := by decide +kernel
theorem dX7_setPrices_52 : decode cX7_setPrices 52 = .ok (.aload_n 0, 1) := by decide +kernel
theorem dX7_setPrices_53 : decode cX7_setPrices 53 = .ok (.iload_n 2, 1) := by decide +kernel
theorem dX7_setPrices_54 : decode cX7_setPrices 54 = .ok (.putfield 63, 3) := by decide +kernel
theorem dX7_setPrices_57 : decode cX7_setPrices 57 = .ok (.aload_n 0, 1) := by decide +kernel
theorem dX7_setPrices_58 : decode cX7_setPrices 58 = .ok (.iload_n 3, 1) := by decide +kernel
theorem dX7_setPrices_59 : decode cX7_setPrices 59 = .ok (.putfield 66, 3) := by decide +kernel
theorem dX7_setPrices_62 : decode cX7_setPrices 62 = .ok (.return_, 1) := by decide +kernel
theorem dX7_paid_0 : decode cX7_paid 0 = .ok (.iload_n 1, 1) := by decide +kernel
theorem dX7_paid_1 : decode cX7_paid 1 = .ok (.ifCond .lt 12, 3) := by decide +kernel
theorem dX7_paid_4 : decode cX7_paid 4 = .ok (.iload_n 1, 1) := by decide +kernel
theorem dX7_paid_5 : decode cX7_paid 5 = .ok (.aload_n 0, 1) := by decide +kernel
theorem dX7_paid_6 : decode cX7_paid 6 = .ok (.getfield 49, 3) := by decide +kernel
theorem dX7_paid_9 : decode cX7_paid 9 = .ok (.arraylength, 1) := by decide +kernel
theorem dX7_paid_10 : decode cX7_paid 10 = .ok (.if_icmp .lt 11, 3) := by decide +kernel
theorem dX7_paid_13 : decode cX7_paid 13 = .ok (.new 69, 3) := by decide +kernel
theorem dX7_paid_16 : decode cX7_paid 16 = .ok (.dup, 1) := by decide +kernel
theorem dX7_paid_17 : decode cX7_paid 17 = .ok (.invokespecial 71, 3) := by decide +kernel
theorem dX7_paid_20 : decode cX7_paid 20 = .ok (.athrow, 1) := by decide +kernel
theorem dX7_paid_21 : decode cX7_paid 21 = .ok (.aload_n 0, 1) := by decide +kernel
theorem dX7_paid_22 : decode cX7_paid 22 = .ok (.getfield 49, 3) := by decide +kernel
theorem dX7_paid_25 : decode cX7_paid 25 = .ok (.iload_n 1, 1) := by decide +kernel
theorem dX7_paid_26 : decode cX7_paid 26 = .ok (.iaload, 1) := by decide +kernel
theorem dX7_paid_27 : decode cX7_paid 27 = .ok (.ireturn, 1) := by decide +kernel
theorem dX7_earned_0 : decode cX7_earned 0 = .ok (.iload_n 1, 1) := by decide +kernel
theorem dX7_earned_1 : decode cX7_earned 1 = .ok (.ifCond .lt 12, 3) := by decide +kernel
theorem dX7_earned_4 : decode cX7_earned 4 = .ok (.iload_n 1, 1) := by decide +kernel
theorem dX7_earned_5 : decode cX7_earned 5 = .ok (.aload_n 0, 1) := by decide +kernel
theorem dX7_earned_6 : decode cX7_earned 6 = .ok (.getfield 53, 3) := by decide +kernel
theorem dX7_earned_9 : decode cX7_earned 9 = .ok (.arraylength, 1) := by decide +kernel
theorem dX7_earned_10 : decode cX7_earned 10 = .ok (.if_icmp .lt 11, 3) := by decide +kernel
theorem dX7_earned_13 : decode cX7_earned 13 = .ok (.new 69, 3) := by decide +kernel
theorem dX7_earned_16 : decode cX7_earned 16 = .ok (.dup, 1) := by decide +kernel
theorem dX7_earned_17 : decode cX7_earned 17 = .ok (.invokespecial 71, 3) := by decide +kernel
theorem dX7_earned_20 : decode cX7_earned 20 = .ok (.athrow, 1) := by decide +kernel
theorem dX7_earned_21 : decode cX7_earned 21 = .ok (.aload_n 0, 1) := by decide +kernel
theorem dX7_earned_22 : decode cX7_earned 22 = .ok (.getfield 53, 3) := by decide +kernel
theorem dX7_earned_25 : decode cX7_earned 25 = .ok (.iload_n 1, 1) := by decide +kernel
theorem dX7_earned_26 : decode cX7_earned 26 = .ok (.iaload, 1) := by decide +kernel
theorem dX7_earned_27 : decode cX7_earned 27 = .ok (.ireturn, 1) := by decide +kernel
set_option maxRecDepth 20000 in
theorem ggX7_purse_X7_sumOf : GoodIn wsX7_purse wsX7_sumOf := goodIn_r _ [6] (by decide +kernel) (by decide +kernel)
set_option maxRecDepth 20000 in
theorem gX7_purse_X7_sumOf : GoodIn wsX7_purse (va_wsS RX7 272 yX7_sumOf wsX7_sumOf) := goodIn_app (goodIn_of _ (by decide +kernel)) ggX7_purse_X7_sumOf
theorem dX7_purse_0 : decode cX7_purse 0 = .ok (.aload_n 0, 1) := by decide +kernel
theorem dX7_purse_1 : decode cX7_purse 1 = .ok (.getfield 49, 3) := by decide +kernel
theorem dX7_purse_4 : decode cX7_purse 4 = .ok (.invokestatic 272, 3) := by decide +kernel
theorem dX7_purse_7 : decode cX7_purse 7 = .ok (.aload_n 0, 1) := by decide +kernel
theorem dX7_purse_8 : decode cX7_purse 8 = .ok (.getfield 53, 3) := by decide +kernel
theorem dX7_purse_11 : decode cX7_purse 11 = .ok (.invokestatic 272, 3) := by decide +kernel
theorem dX7_purse_14 : decode cX7_purse 14 = .ok (.isub, 1) := by decide +kernel
theorem dX7_purse_15 : decode cX7_purse 15 = .ok (.ireturn, 1) := by decide +kernel
theorem dX7_refuseUnlessClient_0 : decode cX7_refuseUnlessClient 0 = .ok (.iload_n 0, 1) := by decide +kernel
theorem dX7_refuseUnlessClient_1 : decode cX7_refuseUnlessClient 1 = .ok (.ifCond .lt 8, 3) := by decide +kernel
theorem dX7_refuseUnlessClient_4 : decode cX7_refuseUnlessClient 4 = .ok (.iload_n 0, 1) := by decide +kernel
theorem dX7_refuseUnlessClient_5 : decode cX7_refuseUnlessClient 5 = .ok (.iconst 4, 1) := by decide +kernel
theorem dX7_refuseUnlessClient_6 : decode cX7_refuseUnlessClient 6 = .ok (.if_icmp .lt 11, 3) := by decide +kernel
theorem dX7_refuseUnlessClient_9 : decode cX7_refuseUnlessClient 9 = .ok (.new 69, 3) := by decide +kernel
theorem dX7_refuseUnlessClient_12 : decode cX7_refuseUnlessClient 12 = .ok (.dup, 1) := by decide +kernel
theorem dX7_refuseUnlessClient_13 : decode cX7_refuseUnlessClient 13 = .ok (.invokespecial 71, 3) := by decide +kernel
theorem dX7_refuseUnlessClient_16 : decode cX7_refuseUnlessClient 16 = .ok (.athrow, 1) := by decide +kernel
theorem dX7_refuseUnlessClient_17 : decode cX7_refuseUnlessClient 17 = .ok (.return_, 1) := by decide +kernel
set_option maxRecDepth 20000 in
theorem ggX7_refuseUnlessClientAndWord_X7_refuseUnlessClient : GoodIn wsX7_refuseUnlessClientAndWord wsX7_refuseUnlessClient := goodIn_ca (goodIn_r _ [6, 1, 2] (by decide +kernel) (by decide +kernel)) (goodIn_sub (fun _ h => List.mem_cons_of_mem _ (List.mem_append_right _ h)) (by decide +kernel))
set_option maxRecDepth 20000 in
theorem gX7_refuseUnlessClientAndWord_X7_refuseUnlessClient : GoodIn wsX7_refuseUnlessClientAndWord (va_wsS RX7 104 yX7_refuseUnlessClient wsX7_refuseUnlessClient) := goodIn_app (goodIn_of _ (by decide +kernel)) ggX7_refuseUnlessClientAndWord_X7_refuseUnlessClient
theorem dX7_refuseUnlessClientAndWord_0 : decode cX7_refuseUnlessClientAndWord 0 = .ok (.iload_n 0, 1) := by decide +kernel
theorem dX7_refuseUnlessClientAndWord_1 : decode cX7_refuseUnlessClientAndWord 1 = .ok (.invokestatic 104, 3) := by decide +kernel
theorem dX7_refuseUnlessClientAndWord_4 : decode cX7_refuseUnlessClientAndWord 4 = .ok (.iload_n 1, 1) := by decide +kernel
theorem dX7_refuseUnlessClientAndWord_5 : decode cX7_refuseUnlessClientAndWord 5 = .ok (.ifCond .lt 9, 3) := by decide +kernel
theorem dX7_refuseUnlessClientAndWord_8 : decode cX7_refuseUnlessClientAndWord 8 = .ok (.iload_n 1, 1) := by decide +kernel
theorem dX7_refuseUnlessClientAndWord_9 : decode cX7_refuseUnlessClientAndWord 9 = .ok (.bipush 50, 2) := by decide +kernel
theorem dX7_refuseUnlessClientAndWord_11 : decode cX7_refuseUnlessClientAndWord 11 = .ok (.if_icmp .lt 11, 3) := by decide +kernel
theorem dX7_refuseUnlessClientAndWord_14 : decode cX7_refuseUnlessClientAndWord 14 = .ok (.new 69, 3) := by decide +kernel
theorem dX7_refuseUnlessClientAndWord_17 : decode cX7_refuseUnlessClientAndWord 17 = .ok (.dup, 1) := by decide +kernel
theorem dX7_refuseUnlessClientAndWord_18 : decode cX7_refuseUnlessClientAndWord 18 = .ok (.invokespecial 71, 3) := by decide +kernel
theorem dX7_refuseUnlessClientAndWord_21 : decode cX7_refuseUnlessClientAndWord 21 = .ok (.athrow, 1) := by decide +kernel
theorem dX7_refuseUnlessClientAndWord_22 : decode cX7_refuseUnlessClientAndWord 22 = .ok (.return_, 1) := by decide +kernel
theorem dX7_refuseUnlessTranslator_0 : decode cX7_refuseUnlessTranslator 0 = .ok (.iload_n 0, 1) := by decide +kernel
theorem dX7_refuseUnlessTranslator_1 : decode cX7_refuseUnlessTranslator 1 = .ok (.ifCond .lt 8, 3) := by decide +kernel
theorem dX7_refuseUnlessTranslator_4 : decode cX7_refuseUnlessTranslator 4 = .ok (.iload_n 0, 1) := by decide +kernel
theorem dX7_refuseUnlessTranslator_5 : decode cX7_refuseUnlessTranslator 5 = .ok (.iconst 4, 1) := by decide +kernel
theorem dX7_refuseUnlessTranslator_6 : decode cX7_refuseUnlessTranslator 6 = .ok (.if_icmp .lt 11, 3) := by decide +kernel
theorem dX7_refuseUnlessTranslator_9 : decode cX7_refuseUnlessTranslator 9 = .ok (.new 69, 3) := by decide +kernel
theorem dX7_refuseUnlessTranslator_12 : decode cX7_refuseUnlessTranslator 12 = .ok (.dup, 1) := by decide +kernel
theorem dX7_refuseUnlessTranslator_13 : decode cX7_refuseUnlessTranslator 13 = .ok (.invokespecial 71, 3) := by decide +kernel
theorem dX7_refuseUnlessTranslator_16 : decode cX7_refuseUnlessTranslator 16 = .ok (.athrow, 1) := by decide +kernel
theorem dX7_refuseUnlessTranslator_17 : decode cX7_refuseUnlessTranslator 17 = .ok (.return_, 1) := by decide +kernel
set_option maxRecDepth 20000 in
theorem ggX7_refuseUnlessPlace_X4_has : GoodIn wsX7_refuseUnlessPlace wsX4_has := goodIn_r _ [7, 8, 9, 13, 14] (by decide +kernel) (by decide +kernel)
set_option maxRecDepth 20000 in
theorem gX7_refuseUnlessPlace_X4_has : GoodIn wsX7_refuseUnlessPlace (wsV RX7 276 RX4 yX4_has wsX4_has) := goodIn_app (goodIn_of _ (by decide +kernel)) ggX7_refuseUnlessPlace_X4_has
theorem dX7_refuseUnlessPlace_0 : decode cX7_refuseUnlessPlace 0 = .ok (.aload_n 0, 1) := by decide +kernel
theorem dX7_refuseUnlessPlace_1 : decode cX7_refuseUnlessPlace 1 = .ok (.getfield 93, 3) := by decide +kernel
theorem dX7_refuseUnlessPlace_4 : decode cX7_refuseUnlessPlace 4 = .ok (.iload_n 1, 1) := by decide +kernel
theorem dX7_refuseUnlessPlace_5 : decode cX7_refuseUnlessPlace 5 = .ok (.invokevirtual 276, 3) := by decide +kernel
theorem dX7_refuseUnlessPlace_8 : decode cX7_refuseUnlessPlace 8 = .ok (.ifCond .ne 11, 3) := by decide +kernel
theorem dX7_refuseUnlessPlace_11 : decode cX7_refuseUnlessPlace 11 = .ok (.new 237, 3) := by decide +kernel
theorem dX7_refuseUnlessPlace_14 : decode cX7_refuseUnlessPlace 14 = .ok (.dup, 1) := by decide +kernel
theorem dX7_refuseUnlessPlace_15 : decode cX7_refuseUnlessPlace 15 = .ok (.invokespecial 239, 3) := by decide +kernel
theorem dX7_refuseUnlessPlace_18 : decode cX7_refuseUnlessPlace 18 = .ok (.athrow, 1) := by decide +kernel
theorem dX7_refuseUnlessPlace_19 : decode cX7_refuseUnlessPlace 19 = .ok (.return_, 1) := by decide +kernel
theorem dX7_refuseEmptyDraft_0 : decode cX7_refuseEmptyDraft 0 = .ok (.aload_n 0, 1) := by decide +kernel
theorem dX7_refuseEmptyDraft_1 : decode cX7_refuseEmptyDraft 1 = .ok (.getfield 10, 3) := by decide +kernel
theorem dX7_refuseEmptyDraft_4 : decode cX7_refuseEmptyDraft 4 = .ok (.getfield 72, 3) := by decide +kernel
theorem dX7_refuseEmptyDraft_7 : decode cX7_refuseEmptyDraft 7 = .ok (.ifCond .ne 11, 3) := by decide +kernel
theorem dX7_refuseEmptyDraft_10 : decode cX7_refuseEmptyDraft 10 = .ok (.new 75, 3) := by decide +kernel
theorem dX7_refuseEmptyDraft_13 : decode cX7_refuseEmptyDraft 13 = .ok (.dup, 1) := by decide +kernel
theorem dX7_refuseEmptyDraft_14 : decode cX7_refuseEmptyDraft 14 = .ok (.invokespecial 77, 3) := by decide +kernel
theorem dX7_refuseEmptyDraft_17 : decode cX7_refuseEmptyDraft 17 = .ok (.athrow, 1) := by decide +kernel
theorem dX7_refuseEmptyDraft_18 : decode cX7_refuseEmptyDraft 18 = .ok (.return_, 1) := by decide +kernel
set_option maxRecDepth 20000 in
theorem ggX7_soldSentence_X2_sentenceAt : GoodIn wsX7_soldSentence wsX2_sentenceAt := goodIn_r _ [8, 9, 23, 24, 25, 26, 27] (by decide +kernel) (by decide +kernel)
set_option maxRecDepth 20000 in
theorem gX7_soldSentence_X2_sentenceAt : GoodIn wsX7_soldSentence (wsV RX7 279 RX2 yX2_sentenceAt wsX2_sentenceAt) := goodIn_app (goodIn_of _ (by decide +kernel)) ggX7_soldSentence_X2_sentenceAt
theorem dX7_soldSentence_0 : decode cX7_soldSentence 0 = .ok (.aload_n 0, 1) := by decide +kernel
theorem dX7_soldSentence_1 : decode cX7_soldSentence 1 = .ok (.getfield 26, 3) := by decide +kernel
theorem dX7_soldSentence_4 : decode cX7_soldSentence 4 = .ok (.iload_n 1, 1) := by decide +kernel
theorem dX7_soldSentence_5 : decode cX7_soldSentence 5 = .ok (.invokevirtual 279, 3) := by decide +kernel
theorem dX7_soldSentence_8 : decode cX7_soldSentence 8 = .ok (.astore_n 2, 1) := by decide +kernel
theorem dX7_soldSentence_9 : decode cX7_soldSentence 9 = .ok (.aload_n 2, 1) := by decide +kernel
theorem dX7_soldSentence_10 : decode cX7_soldSentence 10 = .ok (.ifnonnull 11, 3) := by decide +kernel
theorem dX7_soldSentence_13 : decode cX7_soldSentence 13 = .ok (.new 237, 3) := by decide +kernel
theorem dX7_soldSentence_16 : decode cX7_soldSentence 16 = .ok (.dup, 1) := by decide +kernel
theorem dX7_soldSentence_17 : decode cX7_soldSentence 17 = .ok (.invokespecial 239, 3) := by decide +kernel
theorem dX7_soldSentence_20 : decode cX7_soldSentence 20 = .ok (.athrow, 1) := by decide +kernel
theorem dX7_soldSentence_21 : decode cX7_soldSentence 21 = .ok (.aload_n 2, 1) := by decide +kernel
theorem dX7_soldSentence_22 : decode cX7_soldSentence 22 = .ok (.areturn, 1) := by decide +kernel
set_option maxRecDepth 20000 in
theorem ggX7_orderInHandOf_X7_refuseUnlessTranslator : GoodIn wsX7_orderInHandOf wsX7_refuseUnlessTranslator := goodIn_ca (goodIn_r _ [6, 7, 8] (by decide +kernel) (by decide +kernel)) (goodIn_sub (fun _ h => List.mem_cons_of_mem _ (List.mem_append_right _ h)) (by decide +kernel))
set_option maxRecDepth 20000 in
theorem gX7_orderInHandOf_X7_refuseUnlessTranslator : GoodIn wsX7_orderInHandOf (va_wsS RX7 138 yX7_refuseUnlessTranslator wsX7_refuseUnlessTranslator) := goodIn_app (goodIn_of _ (by decide +kernel)) ggX7_orderInHandOf_X7_refuseUnlessTranslator
set_option maxRecDepth 20000 in
theorem ggX7_orderInHandOf_X7_handOf : GoodIn wsX7_orderInHandOf wsX7_handOf := goodIn_r _ [12, 13, 14, 15, 16, 17, 18, 19, 20, 21, 22, 23, 24, 25, 26] (by decide +kernel) (by decide +kernel)
set_option maxRecDepth 20000 in
theorem gX7_orderInHandOf_X7_handOf : GoodIn wsX7_orderInHandOf (wsV RX7 141 RX7 yX7_handOf wsX7_handOf) := goodIn_app (goodIn_of _ (by decide +kernel)) ggX7_orderInHandOf_X7_handOf
theorem dX7_orderInHandOf_0 : decode cX7_orderInHandOf 0 = .ok (.iload_n 1, 1) := by decide +kernel
theorem dX7_orderInHandOf_1 : decode cX7_orderInHandOf 1 = .ok (.invokestatic 138, 3) := by decide +kernel
theorem dX7_orderInHandOf_4 : decode cX7_orderInHandOf 4 = .ok (.aload_n 0, 1) := by decide +kernel
theorem dX7_orderInHandOf_5 : decode cX7_orderInHandOf 5 = .ok (.iload_n 1, 1) := by decide +kernel
theorem dX7_orderInHandOf_6 : decode cX7_orderInHandOf 6 = .ok (.invokevirtual 141, 3) := by decide +kernel
theorem dX7_orderInHandOf_9 : decode cX7_orderInHandOf 9 = .ok (.astore_n 2, 1) := by decide +kernel
theorem dX7_orderInHandOf_10 : decode cX7_orderInHandOf 10 = .ok (.aload_n 2, 1) := by decide +kernel
theorem dX7_orderInHandOf_11 : decode cX7_orderInHandOf 11 = .ok (.ifnonnull 11, 3) := by decide +kernel
theorem dX7_orderInHandOf_14 : decode cX7_orderInHandOf 14 = .ok (.new 75, 3) := by decide +kernel
theorem dX7_orderInHandOf_17 : decode cX7_orderInHandOf 17 = .ok (.dup, 1) := by decide +kernel
theorem dX7_orderInHandOf_18 : decode cX7_orderInHandOf 18 = .ok (.invokespecial 77, 3) := by decide +kernel
theorem dX7_orderInHandOf_21 : decode cX7_orderInHandOf 21 = .ok (.athrow, 1) := by decide +kernel
theorem dX7_orderInHandOf_22 : decode cX7_orderInHandOf 22 = .ok (.aload_n 2, 1) := by decide +kernel
theorem dX7_orderInHandOf_23 : decode cX7_orderInHandOf 23 = .ok (.areturn, 1) := by decide +kernel
theorem dX7_orderNumbered_0 : decode cX7_orderNumbered 0 = .ok (.iload_n 1, 1) := by decide +kernel
theorem dX7_orderNumbered_1 : decode cX7_orderNumbered 1 = .ok (.ifCond .lt 21, 3) := by decide +kernel
theorem dX7_orderNumbered_4 : decode cX7_orderNumbered 4 = .ok (.iload_n 1, 1) := by decide +kernel
theorem dX7_orderNumbered_5 : decode cX7_orderNumbered 5 = .ok (.aload_n 0, 1) := by decide +kernel
theorem dX7_orderNumbered_6 : decode cX7_orderNumbered 6 = .ok (.getfield 32, 3) := by decide +kernel
theorem dX7_orderNumbered_9 : decode cX7_orderNumbered 9 = .ok (.arraylength, 1) := by decide +kernel
theorem dX7_orderNumbered_10 : decode cX7_orderNumbered 10 = .ok (.if_icmp .ge 12, 3) := by decide +kernel
theorem dX7_orderNumbered_13 : decode cX7_orderNumbered 13 = .ok (.aload_n 0, 1) := by decide +kernel
theorem dX7_orderNumbered_14 : decode cX7_orderNumbered 14 = .ok (.getfield 32, 3) := by decide +kernel
theorem dX7_orderNumbered_17 : decode cX7_orderNumbered 17 = .ok (.iload_n 1, 1) := by decide +kernel
theorem dX7_orderNumbered_18 : decode cX7_orderNumbered 18 = .ok (.aaload, 1) := by decide +kernel
theorem dX7_orderNumbered_19 : decode cX7_orderNumbered 19 = .ok (.goto 4, 3) := by decide +kernel
theorem dX7_orderNumbered_22 : decode cX7_orderNumbered 22 = .ok (.aconst_null, 1) := by decide +kernel
theorem dX7_orderNumbered_23 : decode cX7_orderNumbered 23 = .ok (.areturn, 1) := by decide +kernel
theorem dX7_handOf_0 : decode cX7_handOf 0 = .ok (.iload_n 1, 1) := by decide +kernel
theorem dX7_handOf_1 : decode cX7_handOf 1 = .ok (.ifCond .lt 21, 3) := by decide +kernel
theorem dX7_handOf_4 : decode cX7_handOf 4 = .ok (.iload_n 1, 1) := by decide +kernel
theorem dX7_handOf_5 : decode cX7_handOf 5 = .ok (.aload_n 0, 1) := by decide +kernel
theorem dX7_handOf_6 : decode cX7_handOf 6 = .ok (.getfield 36, 3) := by decide +kernel
theorem dX7_handOf_9 : decode cX7_handOf 9 = .ok (.arraylength, 1) := by decide +kernel
theorem dX7_handOf_10 : decode cX7_handOf 10 = .ok (.if_icmp .ge 12, 3) := by decide +kernel
theorem dX7_handOf_13 : decode cX7_handOf 13 = .ok (.aload_n 0, 1) := by decide +kernel
theorem dX7_handOf_14 : decode cX7_handOf 14 = .ok (.getfield 36, 3) := by decide +kernel
theorem dX7_handOf_17 : decode cX7_handOf 17 = .ok (.iload_n 1, 1) := by decide +kernel
theorem dX7_handOf_18 : decode cX7_handOf 18 = .ok (.aaload, 1) := by decide +kernel
theorem dX7_handOf_19 : decode cX7_handOf 19 = .ok (.goto 4, 3) := by decide +kernel
theorem dX7_handOf_22 : decode cX7_handOf 22 = .ok (.aconst_null, 1) := by decide +kernel
theorem dX7_handOf_23 : decode cX7_handOf 23 = .ok (.areturn, 1) := by decide +kernel
theorem dX7_putInHand_0 : decode cX7_putInHand 0 = .ok (.iload_n 1, 1) := by decide +kernel
theorem dX7_putInHand_1 : decode cX7_putInHand 1 = .ok (.ifCond .lt 19, 3) := by decide +kernel
theorem dX7_putInHand_4 : decode cX7_putInHand 4 = .ok (.iload_n 1, 1) := by decide +kernel
theorem dX7_putInHand_5 : decode cX7_putInHand 5 = .ok (.aload_n 0, 1) := by decide +kernel
theorem dX7_putInHand_6 : decode cX7_putInHand 6 = .ok (.getfield 36, 3) := by decide +kernel
theorem dX7_putInHand_9 : decode cX7_putInHand 9 = .ok (.arraylength, 1) := by decide +kernel
theorem dX7_putInHand_10 : decode cX7_putInHand 10 = .ok (.if_icmp .ge 10, 3) := by decide +kernel
theorem dX7_putInHand_13 : decode cX7_putInHand 13 = .ok (.aload_n 0, 1) := by decide +kernel
theorem dX7_putInHand_14 : decode cX7_putInHand 14 = .ok (.getfield 36, 3) := by decide +kernel
theorem dX7_putInHand_17 : decode cX7_putInHand 17 = .ok (.iload_n 1, 1) := by decide +kernel
theorem dX7_putInHand_18 : decode cX7_putInHand 18 = .ok (.aload_n 2, 1) := by decide +kernel
theorem dX7_putInHand_19 : decode cX7_putInHand 19 = .ok (.aastore, 1) := by decide +kernel
theorem dX7_putInHand_20 : decode cX7_putInHand 20 = .ok (.return_, 1) := by decide +kernel
theorem dX7_deskFor_0 : decode cX7_deskFor 0 = .ok (.iload_n 1, 1) := by decide +kernel
theorem dX7_deskFor_1 : decode cX7_deskFor 1 = .ok (.ifCond .eq 10, 3) := by decide +kernel
theorem dX7_deskFor_4 : decode cX7_deskFor 4 = .ok (.aload_n 0, 1) := by decide +kernel
theorem dX7_deskFor_5 : decode cX7_deskFor 5 = .ok (.getfield 42, 3) := by decide +kernel
theorem dX7_deskFor_8 : decode cX7_deskFor 8 = .ok (.goto 7, 3) := by decide +kernel
theorem dX7_deskFor_11 : decode cX7_deskFor 11 = .ok (.aload_n 0, 1) := by decide +kernel
theorem dX7_deskFor_12 : decode cX7_deskFor 12 = .ok (.getfield 46, 3) := by decide +kernel
theorem dX7_deskFor_15 : decode cX7_deskFor 15 = .ok (.areturn, 1) := by decide +kernel
set_option maxRecDepth 20000 in
theorem ggX7_begin_X7_bestFor : GoodIn wsX7_begin wsX7_bestFor := goodIn_r _ [7, 1, 8, 9, 10, 11, 12, 13, 14, 15, 16, 17, 18, 19, 20, 21, 22, 23, 24, 25, 26, 27, 28, 29, 30, 31, 32, 33, 34, 35, 36, 37, 38, 39, 40, 41, 42, 43, 44, 45, 46, 47, 48, 49, 50, 51, 52, 53, 54, 55, 56, 57, 58, 59, 60, 61, 62, 63, 64, 65, 66, 67, 68, 69, 70, 71, 72, 73, 74, 75, 76, 77, 78, 117, 118, 119, 120, 121, 122, 123, 124, 125, 126, 127, 128, 129, 115, 116, 130, 131, 132, 133, 134, 112, 113, 114, 135, 136, 137] (by decide +kernel) (by decide +kernel)
set_option maxRecDepth 20000 in
theorem gX7_begin_X7_bestFor : GoodIn wsX7_begin (wsV RX7 107 RX7 yX7_bestFor wsX7_bestFor) := goodIn_app (goodIn_of _ (by decide +kernel)) ggX7_begin_X7_bestFor
set_option maxRecDepth 20000 in
theorem ggX7_begin_X2_shareOf : GoodIn wsX7_begin wsX2_shareOf := goodIn_r _ [82, 28, 29, 30, 31, 12, 32, 33, 49, 50, 51, 52, 53, 54, 55, 56, 57, 58, 59, 60, 61, 62, 16, 17, 18, 19, 20, 21, 63, 64, 65, 66, 67, 68, 69, 70, 71, 72, 73, 74, 75, 76, 77, 78, 130, 131, 132, 133, 134, 112, 113, 114, 115, 116, 137] (by decide +kernel) (by decide +kernel)
set_option maxRecDepth 20000 in
theorem gX7_begin_X2_shareOf : GoodIn wsX7_begin (wsV RX7 117 RX2 yX2_shareOf wsX2_shareOf) := goodIn_app (goodIn_of _ (by decide +kernel)) ggX7_begin_X2_shareOf
set_option maxRecDepth 20000 in
theorem ggX7_begin_X7_costOf : GoodIn wsX7_begin wsX7_costOf := goodIn_r _ [86, 87, 117, 118, 119, 120, 121, 122, 123, 124, 125, 126, 127, 128, 129] (by decide +kernel) (by decide +kernel)
set_option maxRecDepth 20000 in
theorem gX7_begin_X7_costOf : GoodIn wsX7_begin (wsV RX7 121 RX7 yX7_costOf wsX7_costOf) := goodIn_app (goodIn_of _ (by decide +kernel)) ggX7_begin_X7_costOf
set_option maxRecDepth 20000 in
theorem ggX7_begin_X2_lendTo : GoodIn wsX7_begin wsX2_lendTo := goodIn_r _ [91, 28, 29, 30, 31, 12, 32, 33, 92, 59, 60, 52, 61, 62, 16, 17, 18, 19, 20, 21, 63, 64, 65, 66, 67, 68, 56, 69, 70, 71, 72, 73, 74, 75, 76, 77, 78, 15, 93, 94, 95, 96, 97, 98, 99, 100, 101, 102, 103, 104, 130, 131, 132, 133, 134, 112, 113, 114, 115, 116, 137] (by decide +kernel) (by decide +kernel)
set_option maxRecDepth 20000 in
theorem gX7_begin_X2_lendTo : GoodIn wsX7_begin (wsV RX7 282 RX2 yX2_lendTo wsX2_lendTo) := goodIn_app (goodIn_of _ (by decide +kernel)) ggX7_begin_X2_lendTo
theorem dX7_begin_0 : decode cX7_begin 0 = .ok (.aload_n 1, 1) := by decide +kernel
theorem dX7_begin_1 : decode cX7_begin 1 = .ok (.getfield 178, 3) := by decide +kernel
theorem dX7_begin_4 : decode cX7_begin 4 = .ok (.astore_n 2, 1) := by decide +kernel
theorem dX7_begin_5 : decode cX7_begin 5 = .ok (.aload_n 2, 1) := by decide +kernel
theorem dX7_begin_6 : decode cX7_begin 6 = .ok (.getfield 93, 3) := by decide +kernel
theorem dX7_begin_9 : decode cX7_begin 9 = .ok (.getfield 72, 3) := by decide +kernel
theorem dX7_begin_12 : decode cX7_begin 12 = .ok (.istore_n 3, 1) := by decide +kernel
theorem dX7_begin_13 : decode cX7_begin 13 = .ok (.aload_n 1, 1) := by decide +kernel
theorem dX7_begin_14 : decode cX7_begin 14 = .ok (.aload_n 0, 1) := by decide +kernel
theorem dX7_begin_15 : decode cX7_begin 15 = .ok (.aload_n 2, 1) := by decide +kernel
theorem dX7_begin_16 : decode cX7_begin 16 = .ok (.getfield 212, 3) := by decide +kernel
theorem dX7_begin_19 : decode cX7_begin 19 = .ok (.aload_n 2, 1) := by decide +kernel
theorem dX7_begin_20 : decode cX7_begin 20 = .ok (.getfield 93, 3) := by decide +kernel
theorem dX7_begin_23 : decode cX7_begin 23 = .ok (.invokevirtual 107, 3) := by decide +kernel
theorem dX7_begin_26 : decode cX7_begin 26 = .ok (.putfield 175, 3) := by decide +kernel
theorem dX7_begin_29 : decode cX7_begin 29 = .ok (.aload_n 0, 1) := by decide +kernel
theorem dX7_begin_30 : decode cX7_begin 30 = .ok (.getfield 26, 3) := by decide +kernel
theorem dX7_begin_33 : decode cX7_begin 33 = .ok (.aload_n 2, 1) := by decide +kernel
theorem dX7_begin_34 : decode cX7_begin 34 = .ok (.getfield 93, 3) := by decide +kernel
theorem dX7_begin_37 : decode cX7_begin 37 = .ok (.aload_n 1, 1) := by decide +kernel
theorem dX7_begin_38 : decode cX7_begin 38 = .ok (.getfield 175, 3) := by decide +kernel
theorem dX7_begin_41 : decode cX7_begin 41 = .ok (.invokevirtual 117, 3) := by decide +kernel
theorem dX7_begin_44 : decode cX7_begin 44 = .ok (.istore 4, 2) := by decide +kernel
theorem dX7_begin_46 : decode cX7_begin 46 = .ok (.aload_n 1, 1) := by decide +kernel
theorem dX7_begin_47 : decode cX7_begin 47 = .ok (.aload_n 0, 1) := by decide +kernel
theorem dX7_begin_48 : decode cX7_begin 48 = .ok (.iload_n 3, 1) := by decide +kernel
theorem dX7_begin_49 : decode cX7_begin 49 = .ok (.iload 4, 2) := by decide +kernel
theorem dX7_begin_51 : decode cX7_begin 51 = .ok (.aload_n 1, 1) := by decide +kernel
theorem dX7_begin_52 : decode cX7_begin 52 = .ok (.getfield 185, 3) := by decide +kernel
theorem dX7_begin_55 : decode cX7_begin 55 = .ok (.invokevirtual 121, 3) := by decide +kernel
theorem dX7_begin_58 : decode cX7_begin 58 = .ok (.putfield 215, 3) := by decide +kernel
theorem dX7_begin_61 : decode cX7_begin 61 = .ok (.aload_n 1, 1) := by decide +kernel
theorem dX7_begin_62 : decode cX7_begin 62 = .ok (.iload_n 3, 1) := by decide +kernel
theorem dX7_begin_63 : decode cX7_begin 63 = .ok (.aload_n 0, 1) := by decide +kernel
theorem dX7_begin_64 : decode cX7_begin 64 = .ok (.getfield 66, 3) := by decide +kernel
theorem dX7_begin_67 : decode cX7_begin 67 = .ok (.imul, 1) := by decide +kernel
theorem dX7_begin_68 : decode cX7_begin 68 = .ok (.iload 4, 2) := by decide +kernel
theorem dX7_begin_70 : decode cX7_begin 70 = .ok (.imul, 1) := by decide +kernel
theorem dX7_begin_71 : decode cX7_begin 71 = .ok (.bipush 100, 2) := by decide +kernel
theorem dX7_begin_73 : decode cX7_begin 73 = .ok (.idiv, 1) := by decide +kernel
theorem dX7_begin_74 : decode cX7_begin 74 = .ok (.putfield 222, 3) := by decide +kernel
theorem dX7_begin_77 : decode cX7_begin 77 = .ok (.aload_n 0, 1) := by decide +kernel
theorem dX7_begin_78 : decode cX7_begin 78 = .ok (.getfield 26, 3) := by decide +kernel
theorem dX7_begin_81 : decode cX7_begin 81 = .ok (.aload_n 2, 1) := by decide +kernel
theorem dX7_begin_82 : decode cX7_begin 82 = .ok (.aload_n 1, 1) := by decide +kernel
theorem dX7_begin_83 : decode cX7_begin 83 = .ok (.getfield 175, 3) := by decide +kernel
theorem dX7_begin_86 : decode cX7_begin 86 = .ok (.invokevirtual 282, 3) := by decide +kernel
theorem dX7_begin_89 : decode cX7_begin 89 = .ok (.return_, 1) := by decide +kernel
set_option maxRecDepth 20000 in
theorem ggX7_bestFor_X2_sharingWith : GoodIn wsX7_bestFor wsX2_sharingWith := goodIn_r _ [7, 8, 9, 10, 11, 12, 13, 14, 15, 86, 87, 88, 89, 90, 91, 92] (by decide +kernel) (by decide +kernel)
set_option maxRecDepth 20000 in
theorem gX7_bestFor_X2_sharingWith : GoodIn wsX7_bestFor (wsV RX7 285 RX2 yX2_sharingWith wsX2_sharingWith) := goodIn_app (goodIn_of _ (by decide +kernel)) ggX7_bestFor_X2_sharingWith
set_option maxRecDepth 20000 in
theorem ggX7_bestFor_X2_bestAmong : GoodIn wsX7_bestFor wsX2_bestAmong := goodIn_r _ [19, 20, 21, 22, 23, 24, 25, 6, 26, 27, 28, 29, 30, 31, 32, 33, 34, 35, 36, 37, 38, 39, 40, 41, 42, 43, 44, 45, 46, 47, 48, 49, 50, 51, 52, 53, 54, 55, 56, 10, 11, 12, 13, 14, 15, 57, 58, 59, 60, 61, 62, 63, 64, 65, 66, 67, 68, 69, 70, 71, 72, 88, 89, 90, 91, 92, 93, 94, 95, 96, 97, 86, 87, 98] (by decide +kernel) (by decide +kernel)
set_option maxRecDepth 20000 in
theorem gX7_bestFor_X2_bestAmong : GoodIn wsX7_bestFor (wsV RX7 113 RX2 yX2_bestAmong wsX2_bestAmong) := goodIn_app (goodIn_of _ (by decide +kernel)) ggX7_bestFor_X2_bestAmong
theorem dX7_bestFor_0 : decode cX7_bestFor 0 = .ok (.aload_n 0, 1) := by decide +kernel
theorem dX7_bestFor_1 : decode cX7_bestFor 1 = .ok (.getfield 26, 3) := by decide +kernel
theorem dX7_bestFor_4 : decode cX7_bestFor 4 = .ok (.aload_n 0, 1) := by decide +kernel
theorem dX7_bestFor_5 : decode cX7_bestFor 5 = .ok (.getfield 26, 3) := by decide +kernel
theorem dX7_bestFor_8 : decode cX7_bestFor 8 = .ok (.aload_n 2, 1) := by decide +kernel
theorem dX7_bestFor_9 : decode cX7_bestFor 9 = .ok (.invokevirtual 285, 3) := by decide +kernel
theorem dX7_bestFor_12 : decode cX7_bestFor 12 = .ok (.aload_n 2, 1) := by decide +kernel
theorem dX7_bestFor_13 : decode cX7_bestFor 13 = .ok (.iload_n 1, 1) := by decide +kernel
theorem dX7_bestFor_14 : decode cX7_bestFor 14 = .ok (.aload_n 0, 1) := by decide +kernel
theorem dX7_bestFor_15 : decode cX7_bestFor 15 = .ok (.getfield 60, 3) := by decide +kernel
theorem dX7_bestFor_18 : decode cX7_bestFor 18 = .ok (.invokevirtual 113, 3) := by decide +kernel
theorem dX7_bestFor_21 : decode cX7_bestFor 21 = .ok (.ireturn, 1) := by decide +kernel
theorem dX7_costOf_0 : decode cX7_costOf 0 = .ok (.iload_n 1, 1) := by decide +kernel
theorem dX7_costOf_1 : decode cX7_costOf 1 = .ok (.aload_n 0, 1) := by decide +kernel
theorem dX7_costOf_2 : decode cX7_costOf 2 = .ok (.getfield 63, 3) := by decide +kernel
theorem dX7_costOf_5 : decode cX7_costOf 5 = .ok (.imul, 1) := by decide +kernel
theorem dX7_costOf_6 : decode cX7_costOf 6 = .ok (.iload_n 2, 1) := by decide +kernel
theorem dX7_costOf_7 : decode cX7_costOf 7 = .ok (.imul, 1) := by decide +kernel
theorem dX7_costOf_8 : decode cX7_costOf 8 = .ok (.bipush 100, 2) := by decide +kernel
theorem dX7_costOf_10 : decode cX7_costOf 10 = .ok (.idiv, 1) := by decide +kernel
theorem dX7_costOf_11 : decode cX7_costOf 11 = .ok (.istore 4, 2) := by decide +kernel
theorem dX7_costOf_13 : decode cX7_costOf 13 = .ok (.iload_n 3, 1) := by decide +kernel
theorem dX7_costOf_14 : decode cX7_costOf 14 = .ok (.ifCond .eq 13, 3) := by decide +kernel
theorem dX7_costOf_17 : decode cX7_costOf 17 = .ok (.iload 4, 2) := by decide +kernel
theorem dX7_costOf_19 : decode cX7_costOf 19 = .ok (.iload 4, 2) := by decide +kernel
theorem dX7_costOf_21 : decode cX7_costOf 21 = .ok (.iconst 2, 1) := by decide +kernel
theorem dX7_costOf_22 : decode cX7_costOf 22 = .ok (.idiv, 1) := by decide +kernel
theorem dX7_costOf_23 : decode cX7_costOf 23 = .ok (.iadd, 1) := by decide +kernel
theorem dX7_costOf_24 : decode cX7_costOf 24 = .ok (.goto 5, 3) := by decide +kernel
theorem dX7_costOf_27 : decode cX7_costOf 27 = .ok (.iload 4, 2) := by decide +kernel
theorem dX7_costOf_29 : decode cX7_costOf 29 = .ok (.ireturn, 1) := by decide +kernel
set_option maxRecDepth 20000 in
theorem ggX7_mendingPrice_X5_soldAtChange : GoodIn wsX7_mendingPrice wsX5_soldAtChange := goodIn_r _ [6, 7, 8, 9, 5, 10, 24, 25, 26] (by decide +kernel) (by decide +kernel)
set_option maxRecDepth 20000 in
theorem gX7_mendingPrice_X5_soldAtChange : GoodIn wsX7_mendingPrice (wsV RX7 289 RX5 yX5_soldAtChange wsX5_soldAtChange) := goodIn_app (goodIn_of _ (by decide +kernel)) ggX7_mendingPrice_X5_soldAtChange
theorem dX7_mendingPrice_0 : decode cX7_mendingPrice 0 = .ok (.aload_n 0, 1) := by decide +kernel
theorem dX7_mendingPrice_1 : decode cX7_mendingPrice 1 = .ok (.getfield 19, 3) := by decide +kernel
theorem dX7_mendingPrice_4 : decode cX7_mendingPrice 4 = .ok (.iload_n 2, 1) := by decide +kernel
theorem dX7_mendingPrice_5 : decode cX7_mendingPrice 5 = .ok (.iload_n 3, 1) := by decide +kernel
theorem dX7_mendingPrice_6 : decode cX7_mendingPrice 6 = .ok (.invokevirtual 289, 3) := by decide +kernel
theorem dX7_mendingPrice_9 : decode cX7_mendingPrice 9 = .ok (.iload_n 1, 1) := by decide +kernel
theorem dX7_mendingPrice_10 : decode cX7_mendingPrice 10 = .ok (.if_icmp .gt 8, 3) := by decide +kernel
theorem dX7_mendingPrice_13 : decode cX7_mendingPrice 13 = .ok (.bipush (-5), 2) := by decide +kernel
theorem dX7_mendingPrice_15 : decode cX7_mendingPrice 15 = .ok (.goto 4, 3) := by decide +kernel
theorem dX7_mendingPrice_18 : decode cX7_mendingPrice 18 = .ok (.iconst 3, 1) := by decide +kernel
theorem dX7_mendingPrice_19 : decode cX7_mendingPrice 19 = .ok (.ireturn, 1) := by decide +kernel
theorem dX7_addTo_0 : decode cX7_addTo 0 = .ok (.iload_n 1, 1) := by decide +kernel
theorem dX7_addTo_1 : decode cX7_addTo 1 = .ok (.ifCond .lt 16, 3) := by decide +kernel
theorem dX7_addTo_4 : decode cX7_addTo 4 = .ok (.iload_n 1, 1) := by decide +kernel
theorem dX7_addTo_5 : decode cX7_addTo 5 = .ok (.aload_n 0, 1) := by decide +kernel
theorem dX7_addTo_6 : decode cX7_addTo 6 = .ok (.arraylength, 1) := by decide +kernel
theorem dX7_addTo_7 : decode cX7_addTo 7 = .ok (.if_icmp .ge 10, 3) := by decide +kernel
theorem dX7_addTo_10 : decode cX7_addTo 10 = .ok (.aload_n 0, 1) := by decide +kernel
theorem dX7_addTo_11 : decode cX7_addTo 11 = .ok (.iload_n 1, 1) := by decide +kernel
theorem dX7_addTo_12 : decode cX7_addTo 12 = .ok (.dup2, 1) := by decide +kernel
theorem dX7_addTo_13 : decode cX7_addTo 13 = .ok (.iaload, 1) := by decide +kernel
theorem dX7_addTo_14 : decode cX7_addTo 14 = .ok (.iload_n 2, 1) := by decide +kernel
theorem dX7_addTo_15 : decode cX7_addTo 15 = .ok (.iadd, 1) := by decide +kernel
theorem dX7_addTo_16 : decode cX7_addTo 16 = .ok (.iastore, 1) := by decide +kernel
theorem dX7_addTo_17 : decode cX7_addTo 17 = .ok (.return_, 1) := by decide +kernel
theorem dX7_sumOf_0 : decode cX7_sumOf 0 = .ok (.iconst 0, 1) := by decide +kernel
theorem dX7_sumOf_1 : decode cX7_sumOf 1 = .ok (.istore_n 1, 1) := by decide +kernel
theorem dX7_sumOf_2 : decode cX7_sumOf 2 = .ok (.aload_n 0, 1) := by decide +kernel
theorem dX7_sumOf_3 : decode cX7_sumOf 3 = .ok (.astore_n 2, 1) := by decide +kernel
theorem dX7_sumOf_4 : decode cX7_sumOf 4 = .ok (.aload_n 2, 1) := by decide +kernel
theorem dX7_sumOf_5 : decode cX7_sumOf 5 = .ok (.arraylength, 1) := by decide +kernel
theorem dX7_sumOf_6 : decode cX7_sumOf 6 = .ok (.istore_n 3, 1) := by decide +kernel
theorem dX7_sumOf_7 : decode cX7_sumOf 7 = .ok (.iconst 0, 1) := by decide +kernel
theorem dX7_sumOf_8 : decode cX7_sumOf 8 = .ok (.istore 4, 2) := by decide +kernel
theorem dX7_sumOf_10 : decode cX7_sumOf 10 = .ok (.iload 4, 2) := by decide +kernel
theorem dX7_sumOf_12 : decode cX7_sumOf 12 = .ok (.iload_n 3, 1) := by decide +kernel
theorem dX7_sumOf_13 : decode cX7_sumOf 13 = .ok (.if_icmp .ge 20, 3) := by decide +kernel
theorem dX7_sumOf_16 : decode cX7_sumOf 16 = .ok (.aload_n 2, 1) := by decide +kernel
theorem dX7_sumOf_17 : decode cX7_sumOf 17 = .ok (.iload 4, 2) := by decide +kernel
theorem dX7_sumOf_19 : decode cX7_sumOf 19 = .ok (.iaload, 1) := by decide +kernel
theorem dX7_sumOf_20 : decode cX7_sumOf 20 = .ok (.istore 5, 2) := by decide +kernel
theorem dX7_sumOf_22 : decode cX7_sumOf 22 = .ok (.iload_n 1, 1) := by decide +kernel
theorem dX7_sumOf_23 : decode cX7_sumOf 23 = .ok (.iload 5, 2) := by decide +kernel
theorem dX7_sumOf_25 : decode cX7_sumOf 25 = .ok (.iadd, 1) := by decide +kernel
theorem dX7_sumOf_26 : decode cX7_sumOf 26 = .ok (.istore_n 1, 1) := by decide +kernel
theorem dX7_sumOf_27 : decode cX7_sumOf 27 = .ok (.iinc 4 1, 3) := by decide +kernel
theorem dX7_sumOf_30 : decode cX7_sumOf 30 = .ok (.goto (-20), 3) := by decide +kernel
theorem dX7_sumOf_33 : decode cX7_sumOf 33 = .ok (.iload_n 1, 1) := by decide +kernel
theorem dX7_sumOf_34 : decode cX7_sumOf 34 = .ok (.ireturn, 1) := by decide +kernel
