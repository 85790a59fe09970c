theorem dX0_init_0 : decode cX0_init 0 = .ok (.aload_n 0, 1) := by decide +kernel
theorem dX0_init_1 : decode cX0_init 1 = .ok (.invokespecial 3, 3) := by decide +kernel
theorem dX0_init_4 : decode cX0_init 4 = .ok (.aload_n 0, 1) := by decide +kernel
theorem dX0_init_5 : decode cX0_init 5 = .ok (.bipush 81, 2) := by decide +kernel
theorem dX0_init_7 : decode cX0_init 7 = .ok (.newarray .int, 2) := by decide +kernel
theorem dX0_init_9 : decode cX0_init 9 = .ok (.putfield 11, 3) := by decide +kernel
theorem dX0_init_12 : decode cX0_init 12 = .ok (.return_, 1) := by decide +kernel
set_option maxRecDepth 20000 in
theorem ggX0_likenessOf_X0_compare : GoodIn wsX0_likenessOf wsX0_compare := goodIn_r _ [9, 10, 11, 12, 13, 14, 15, 16, 17, 18, 19, 8, 20, 21, 22, 3, 23, 24, 25, 26, 27, 28, 29, 30, 31, 32, 33, 34, 35] (by decide +kernel) (by decide +kernel)
set_option maxRecDepth 20000 in
theorem gX0_likenessOf_X0_compare : GoodIn wsX0_likenessOf (wsV RX0 15 RX0 yX0_compare wsX0_compare) := goodIn_app (goodIn_of _ (by decide +kernel)) ggX0_likenessOf_X0_compare
set_option maxRecDepth 20000 in
theorem ggX0_likenessOf_X0_between : GoodIn wsX0_likenessOf wsX0_between := goodIn_r _ [27, 28, 35] (by decide +kernel) (by decide +kernel)
set_option maxRecDepth 20000 in
theorem gX0_likenessOf_X0_between : GoodIn wsX0_likenessOf (wsV RX0 31 RX0 yX0_between wsX0_between) := goodIn_app (goodIn_of _ (by decide +kernel)) ggX0_likenessOf_X0_between
theorem dX0_likenessOf_0 : decode cX0_likenessOf 0 = .ok (.aload_n 0, 1) := by decide +kernel
theorem dX0_likenessOf_1 : decode cX0_likenessOf 1 = .ok (.aload_n 1, 1) := by decide +kernel
theorem dX0_likenessOf_2 : decode cX0_likenessOf 2 = .ok (.aload_n 2, 1) := by decide +kernel
theorem dX0_likenessOf_3 : decode cX0_likenessOf 3 = .ok (.invokevirtual 15, 3) := by decide +kernel
theorem dX0_likenessOf_6 : decode cX0_likenessOf 6 = .ok (.aload_n 1, 1) := by decide +kernel
theorem dX0_likenessOf_7 : decode cX0_likenessOf 7 = .ok (.getfield 19, 3) := by decide +kernel
theorem dX0_likenessOf_10 : decode cX0_likenessOf 10 = .ok (.aload_n 2, 1) := by decide +kernel
theorem dX0_likenessOf_11 : decode cX0_likenessOf 11 = .ok (.getfield 19, 3) := by decide +kernel
theorem dX0_likenessOf_14 : decode cX0_likenessOf 14 = .ok (.invokestatic 25, 3) := by decide +kernel
theorem dX0_likenessOf_17 : decode cX0_likenessOf 17 = .ok (.istore_n 3, 1) := by decide +kernel
theorem dX0_likenessOf_18 : decode cX0_likenessOf 18 = .ok (.iload_n 3, 1) := by decide +kernel
theorem dX0_likenessOf_19 : decode cX0_likenessOf 19 = .ok (.ifCond .gt 6, 3) := by decide +kernel
theorem dX0_likenessOf_22 : decode cX0_likenessOf 22 = .ok (.bipush 100, 2) := by decide +kernel
theorem dX0_likenessOf_24 : decode cX0_likenessOf 24 = .ok (.ireturn, 1) := by decide +kernel
theorem dX0_likenessOf_25 : decode cX0_likenessOf 25 = .ok (.bipush 100, 2) := by decide +kernel
theorem dX0_likenessOf_27 : decode cX0_likenessOf 27 = .ok (.aload_n 0, 1) := by decide +kernel
theorem dX0_likenessOf_28 : decode cX0_likenessOf 28 = .ok (.aload_n 1, 1) := by decide +kernel
theorem dX0_likenessOf_29 : decode cX0_likenessOf 29 = .ok (.getfield 19, 3) := by decide +kernel
theorem dX0_likenessOf_32 : decode cX0_likenessOf 32 = .ok (.aload_n 2, 1) := by decide +kernel
theorem dX0_likenessOf_33 : decode cX0_likenessOf 33 = .ok (.getfield 19, 3) := by decide +kernel
theorem dX0_likenessOf_36 : decode cX0_likenessOf 36 = .ok (.invokevirtual 31, 3) := by decide +kernel
theorem dX0_likenessOf_39 : decode cX0_likenessOf 39 = .ok (.imul, 1) := by decide +kernel
theorem dX0_likenessOf_40 : decode cX0_likenessOf 40 = .ok (.istore 4, 2) := by decide +kernel
theorem dX0_likenessOf_42 : decode cX0_likenessOf 42 = .ok (.bipush 100, 2) := by decide +kernel
theorem dX0_likenessOf_44 : decode cX0_likenessOf 44 = .ok (.iload 4, 2) := by decide +kernel
theorem dX0_likenessOf_46 : decode cX0_likenessOf 46 = .ok (.iload_n 3, 1) := by decide +kernel
theorem dX0_likenessOf_47 : decode cX0_likenessOf 47 = .ok (.iadd, 1) := by decide +kernel
theorem dX0_likenessOf_48 : decode cX0_likenessOf 48 = .ok (.iconst 1, 1) := by decide +kernel
theorem dX0_likenessOf_49 : decode cX0_likenessOf 49 = .ok (.isub, 1) := by decide +kernel
theorem dX0_likenessOf_50 : decode cX0_likenessOf 50 = .ok (.iload_n 3, 1) := by decide +kernel
theorem dX0_likenessOf_51 : decode cX0_likenessOf 51 = .ok (.idiv, 1) := by decide +kernel
theorem dX0_likenessOf_52 : decode cX0_likenessOf 52 = .ok (.isub, 1) := by decide +kernel
theorem dX0_likenessOf_53 : decode cX0_likenessOf 53 = .ok (.ireturn, 1) := by decide +kernel
set_option maxRecDepth 20000 in
theorem ggX0_compare_X4_at : GoodIn wsX0_compare wsX4_at := goodIn_r _ [5, 6, 7, 26, 27] (by decide +kernel) (by decide +kernel)
set_option maxRecDepth 20000 in
theorem gX0_compare_X4_at : GoodIn wsX0_compare (wsV RX0 34 RX4 yX4_at wsX4_at) := goodIn_app (goodIn_of _ (by decide +kernel)) ggX0_compare_X4_at
set_option maxRecDepth 20000 in
theorem ggX0_compare_X0_least : GoodIn wsX0_compare wsX0_least := goodIn_r _ [12, 13, 14, 15, 16, 17, 18, 19, 11, 20, 21, 28] (by decide +kernel) (by decide +kernel)
set_option maxRecDepth 20000 in
theorem gX0_compare_X0_least : GoodIn wsX0_compare (wsV RX0 38 RX0 yX0_least wsX0_least) := goodIn_app (goodIn_of _ (by decide +kernel)) ggX0_compare_X0_least
set_option maxRecDepth 20000 in
theorem ggX0_compare_X0_put : GoodIn wsX0_compare wsX0_put := goodIn_r _ [25, 21, 28] (by decide +kernel) (by decide +kernel)
set_option maxRecDepth 20000 in
theorem gX0_compare_X0_put : GoodIn wsX0_compare (wsV RX0 42 RX0 yX0_put wsX0_put) := goodIn_app (goodIn_of _ (by decide +kernel)) ggX0_compare_X0_put
theorem dX0_compare_0 : decode cX0_compare 0 = .ok (.iconst 0, 1) := by decide +kernel
theorem dX0_compare_1 : decode cX0_compare 1 = .ok (.istore_n 3, 1) := by decide +kernel
theorem dX0_compare_2 : decode cX0_compare 2 = .ok (.iload_n 3, 1) := by decide +kernel
theorem dX0_compare_3 : decode cX0_compare 3 = .ok (.aload_n 1, 1) := by decide +kernel
theorem dX0_compare_4 : decode cX0_compare 4 = .ok (.getfield 19, 3) := by decide +kernel
theorem dX0_compare_7 : decode cX0_compare 7 = .ok (.if_icmp .gt 68, 3) := by decide +kernel
theorem dX0_compare_10 : decode cX0_compare 10 = .ok (.iconst 0, 1) := by decide +kernel
theorem dX0_compare_11 : decode cX0_compare 11 = .ok (.istore 4, 2) := by decide +kernel
theorem dX0_compare_13 : decode cX0_compare 13 = .ok (.iload 4, 2) := by decide +kernel
theorem dX0_compare_15 : decode cX0_compare 15 = .ok (.aload_n 2, 1) := by decide +kernel
theorem dX0_compare_16 : decode cX0_compare 16 = .ok (.getfield 19, 3) := by decide +kernel
theorem dX0_compare_19 : decode cX0_compare 19 = .ok (.if_icmp .gt 50, 3) := by decide +kernel
theorem dX0_compare_22 : decode cX0_compare 22 = .ok (.aload_n 1, 1) := by decide +kernel
theorem dX0_compare_23 : decode cX0_compare 23 = .ok (.iload_n 3, 1) := by decide +kernel
theorem dX0_compare_24 : decode cX0_compare 24 = .ok (.iconst 1, 1) := by decide +kernel
theorem dX0_compare_25 : decode cX0_compare 25 = .ok (.isub, 1) := by decide +kernel
theorem dX0_compare_26 : decode cX0_compare 26 = .ok (.invokevirtual 34, 3) := by decide +kernel
theorem dX0_compare_29 : decode cX0_compare 29 = .ok (.aload_n 2, 1) := by decide +kernel
theorem dX0_compare_30 : decode cX0_compare 30 = .ok (.iload 4, 2) := by decide +kernel
theorem dX0_compare_32 : decode cX0_compare 32 = .ok (.iconst 1, 1) := by decide +kernel
theorem dX0_compare_33 : decode cX0_compare 33 = .ok (.isub, 1) := by decide +kernel
theorem dX0_compare_34 : decode cX0_compare 34 = .ok (.invokevirtual 34, 3) := by decide +kernel
theorem dX0_compare_37 : decode cX0_compare 37 = .ok (.if_icmp .ne 7, 3) := by decide +kernel
theorem dX0_compare_40 : decode cX0_compare 40 = .ok (.iconst 1, 1) := by decide +kernel
theorem dX0_compare_41 : decode cX0_compare 41 = .ok (.goto 4, 3) := by decide +kernel
theorem dX0_compare_44 : decode cX0_compare 44 = .ok (.iconst 0, 1) := by decide +kernel
theorem dX0_compare_45 : decode cX0_compare 45 = .ok (.istore 5, 2) := by decide +kernel
theorem dX0_compare_47 : decode cX0_compare 47 = .ok (.aload_n 0, 1) := by decide +kernel
theorem dX0_compare_48 : decode cX0_compare 48 = .ok (.iload_n 3, 1) := by decide +kernel
theorem dX0_compare_49 : decode cX0_compare 49 = .ok (.iload 4, 2) := by decide +kernel
theorem dX0_compare_51 : decode cX0_compare 51 = .ok (.aload_n 0, 1) := by decide +kernel
theorem dX0_compare_52 : decode cX0_compare 52 = .ok (.iload_n 3, 1) := by decide +kernel
theorem dX0_compare_53 : decode cX0_compare 53 = .ok (.iload 4, 2) := by decide +kernel
theorem dX0_compare_55 : decode cX0_compare 55 = .ok (.iload 5, 2) := by decide +kernel
theorem dX0_compare_57 : decode cX0_compare 57 = .ok (.invokevirtual 38, 3) := by decide +kernel
theorem dX0_compare_60 : decode cX0_compare 60 = .ok (.invokevirtual 42, 3) := by decide +kernel
theorem dX0_compare_63 : decode cX0_compare 63 = .ok (.iinc 4 1, 3) := by decide +kernel
theorem dX0_compare_66 : decode cX0_compare 66 = .ok (.goto (-53), 3) := by decide +kernel
theorem dX0_compare_69 : decode cX0_compare 69 = .ok (.iinc 3 1, 3) := by decide +kernel
theorem dX0_compare_72 : decode cX0_compare 72 = .ok (.goto (-70), 3) := by decide +kernel
theorem dX0_compare_75 : decode cX0_compare 75 = .ok (.return_, 1) := by decide +kernel
set_option maxRecDepth 20000 in
theorem ggX0_least_X0_between : GoodIn wsX0_least wsX0_between := goodIn_r _ [9, 10, 11] (by decide +kernel) (by decide +kernel)
set_option maxRecDepth 20000 in
theorem gX0_least_X0_between : GoodIn wsX0_least (wsV RX0 31 RX0 yX0_between wsX0_between) := goodIn_app (goodIn_of _ (by decide +kernel)) ggX0_least_X0_between
theorem dX0_least_0 : decode cX0_least 0 = .ok (.iload_n 1, 1) := by decide +kernel
theorem dX0_least_1 : decode cX0_least 1 = .ok (.ifCond .eq 7, 3) := by decide +kernel
theorem dX0_least_4 : decode cX0_least 4 = .ok (.iload_n 2, 1) := by decide +kernel
theorem dX0_least_5 : decode cX0_least 5 = .ok (.ifCond .ne 7, 3) := by decide +kernel
theorem dX0_least_8 : decode cX0_least 8 = .ok (.iload_n 1, 1) := by decide +kernel
theorem dX0_least_9 : decode cX0_least 9 = .ok (.iload_n 2, 1) := by decide +kernel
theorem dX0_least_10 : decode cX0_least 10 = .ok (.iadd, 1) := by decide +kernel
theorem dX0_least_11 : decode cX0_least 11 = .ok (.ireturn, 1) := by decide +kernel
theorem dX0_least_12 : decode cX0_least 12 = .ok (.aload_n 0, 1) := by decide +kernel
theorem dX0_least_13 : decode cX0_least 13 = .ok (.iload_n 1, 1) := by decide +kernel
theorem dX0_least_14 : decode cX0_least 14 = .ok (.iconst 1, 1) := by decide +kernel
theorem dX0_least_15 : decode cX0_least 15 = .ok (.isub, 1) := by decide +kernel
theorem dX0_least_16 : decode cX0_least 16 = .ok (.iload_n 2, 1) := by decide +kernel
theorem dX0_least_17 : decode cX0_least 17 = .ok (.iconst 1, 1) := by decide +kernel
theorem dX0_least_18 : decode cX0_least 18 = .ok (.isub, 1) := by decide +kernel
theorem dX0_least_19 : decode cX0_least 19 = .ok (.invokevirtual 31, 3) := by decide +kernel
theorem dX0_least_22 : decode cX0_least 22 = .ok (.iload_n 3, 1) := by decide +kernel
theorem dX0_least_23 : decode cX0_least 23 = .ok (.ifCond .eq 7, 3) := by decide +kernel
theorem dX0_least_26 : decode cX0_least 26 = .ok (.iconst 0, 1) := by decide +kernel
theorem dX0_least_27 : decode cX0_least 27 = .ok (.goto 4, 3) := by decide +kernel
theorem dX0_least_30 : decode cX0_least 30 = .ok (.iconst 1, 1) := by decide +kernel
theorem dX0_least_31 : decode cX0_least 31 = .ok (.iadd, 1) := by decide +kernel
theorem dX0_least_32 : decode cX0_least 32 = .ok (.istore 4, 2) := by decide +kernel
theorem dX0_least_34 : decode cX0_least 34 = .ok (.aload_n 0, 1) := by decide +kernel
theorem dX0_least_35 : decode cX0_least 35 = .ok (.iload_n 1, 1) := by decide +kernel
theorem dX0_least_36 : decode cX0_least 36 = .ok (.iconst 1, 1) := by decide +kernel
theorem dX0_least_37 : decode cX0_least 37 = .ok (.isub, 1) := by decide +kernel
theorem dX0_least_38 : decode cX0_least 38 = .ok (.iload_n 2, 1) := by decide +kernel
theorem dX0_least_39 : decode cX0_least 39 = .ok (.invokevirtual 31, 3) := by decide +kernel
theorem dX0_least_42 : decode cX0_least 42 = .ok (.iconst 1, 1) := by decide +kernel
theorem dX0_least_43 : decode cX0_least 43 = .ok (.iadd, 1) := by decide +kernel
theorem dX0_least_44 : decode cX0_least 44 = .ok (.istore 5, 2) := by decide +kernel
theorem dX0_least_46 : decode cX0_least 46 = .ok (.aload_n 0, 1) := by decide +kernel
theorem dX0_least_47 : decode cX0_least 47 = .ok (.iload_n 1, 1) := by decide +kernel
theorem dX0_least_48 : decode cX0_least 48 = .ok (.iload_n 2, 1) := by decide +kernel
theorem dX0_least_49 : decode cX0_least 49 = .ok (.iconst 1, 1) := by decide +kernel
theorem dX0_least_50 : decode cX0_least 50 = .ok (.isub, 1) := by decide +kernel
theorem dX0_least_51 : decode cX0_least 51 = .ok (.invokevirtual 31, 3) := by decide +kernel
theorem dX0_least_54 : decode cX0_least 54 = .ok (.iconst 1, 1) := by decide +kernel
theorem dX0_least_55 : decode cX0_least 55 = .ok (.iadd, 1) := by decide +kernel
theorem dX0_least_56 : decode cX0_least 56 = .ok (.istore 6, 2) := by decide +kernel
theorem dX0_least_58 : decode cX0_least 58 = .ok (.iload 4, 2) := by decide +kernel
theorem dX0_least_60 : decode cX0_least 60 = .ok (.iload 5, 2) := by decide +kernel
theorem dX0_least_62 : decode cX0_least 62 = .ok (.iload 6, 2) := by decide +kernel
theorem dX0_least_64 : decode cX0_least 64 = .ok (.invokestatic 46, 3) := by decide +kernel
theorem dX0_least_67 : decode cX0_least 67 = .ok (.invokestatic 46, 3) := by decide +kernel
theorem dX0_least_70 : decode cX0_least 70 = .ok (.ireturn, 1) := by decide +kernel
theorem dX0_between_0 : decode cX0_between 0 = .ok (.iload_n 1, 1) := by decide +kernel
theorem dX0_between_1 : decode cX0_between 1 = .ok (.bipush 9, 2) := by decide +kernel
theorem dX0_between_3 : decode cX0_between 3 = .ok (.imul, 1) := by decide +kernel
theorem dX0_between_4 : decode cX0_between 4 = .ok (.iload_n 2, 1) := by decide +kernel
theorem dX0_between_5 : decode cX0_between 5 = .ok (.iadd, 1) := by decide +kernel
theorem dX0_between_6 : decode cX0_between 6 = .ok (.istore_n 3, 1) := by decide +kernel
theorem dX0_between_7 : decode cX0_between 7 = .ok (.iload_n 3, 1) := by decide +kernel
theorem dX0_between_8 : decode cX0_between 8 = .ok (.ifCond .lt 21, 3) := by decide +kernel
theorem dX0_between_11 : decode cX0_between 11 = .ok (.iload_n 3, 1) := by decide +kernel
theorem dX0_between_12 : decode cX0_between 12 = .ok (.aload_n 0, 1) := by decide +kernel
theorem dX0_between_13 : decode cX0_between 13 = .ok (.getfield 11, 3) := by decide +kernel
theorem dX0_between_16 : decode cX0_between 16 = .ok (.arraylength, 1) := by decide +kernel
theorem dX0_between_17 : decode cX0_between 17 = .ok (.if_icmp .ge 12, 3) := by decide +kernel
theorem dX0_between_20 : decode cX0_between 20 = .ok (.aload_n 0, 1) := by decide +kernel
theorem dX0_between_21 : decode cX0_between 21 = .ok (.getfield 11, 3) := by decide +kernel
theorem dX0_between_24 : decode cX0_between 24 = .ok (.iload_n 3, 1) := by decide +kernel
theorem dX0_between_25 : decode cX0_between 25 = .ok (.iaload, 1) := by decide +kernel
theorem dX0_between_26 : decode cX0_between 26 = .ok (.goto 4, 3) := by decide +kernel
theorem dX0_between_29 : decode cX0_between 29 = .ok (.iconst 0, 1) := by decide +kernel
theorem dX0_between_30 : decode cX0_between 30 = .ok (.ireturn, 1) := by decide +kernel
set_option maxRecDepth 20000 in
theorem ggX0_skipBehind_X0_between : GoodIn wsX0_skipBehind wsX0_between := goodIn_r _ [5, 6, 7] (by decide +kernel) (by decide +kernel)
set_option maxRecDepth 20000 in
theorem gX0_skipBehind_X0_between : GoodIn wsX0_skipBehind (wsV RX0 31 RX0 yX0_between wsX0_between) := goodIn_app (goodIn_of _ (by decide +kernel)) ggX0_skipBehind_X0_between
theorem dX0_skipBehind_0 : decode cX0_skipBehind 0 = .ok (.aload_n 0, 1) := by decide +kernel
theorem dX0_skipBehind_1 : decode cX0_skipBehind 1 = .ok (.iload_n 1, 1) := by decide +kernel
theorem dX0_skipBehind_2 : decode cX0_skipBehind 2 = .ok (.iconst 1, 1) := by decide +kernel
theorem dX0_skipBehind_3 : decode cX0_skipBehind 3 = .ok (.isub, 1) := by decide +kernel
theorem dX0_skipBehind_4 : decode cX0_skipBehind 4 = .ok (.iload_n 2, 1) := by decide +kernel
theorem dX0_skipBehind_5 : decode cX0_skipBehind 5 = .ok (.invokevirtual 31, 3) := by decide +kernel
theorem dX0_skipBehind_8 : decode cX0_skipBehind 8 = .ok (.istore_n 3, 1) := by decide +kernel
theorem dX0_skipBehind_9 : decode cX0_skipBehind 9 = .ok (.aload_n 0, 1) := by decide +kernel
theorem dX0_skipBehind_10 : decode cX0_skipBehind 10 = .ok (.iload_n 1, 1) := by decide +kernel
theorem dX0_skipBehind_11 : decode cX0_skipBehind 11 = .ok (.iload_n 2, 1) := by decide +kernel
theorem dX0_skipBehind_12 : decode cX0_skipBehind 12 = .ok (.iconst 1, 1) := by decide +kernel
theorem dX0_skipBehind_13 : decode cX0_skipBehind 13 = .ok (.isub, 1) := by decide +kernel
theorem dX0_skipBehind_14 : decode cX0_skipBehind 14 = .ok (.invokevirtual 31, 3) := by decide +kernel
theorem dX0_skipBehind_17 : decode cX0_skipBehind 17 = .ok (.istore 4, 2) := by decide +kernel
theorem dX0_skipBehind_19 : decode cX0_skipBehind 19 = .ok (.aload_n 0, 1) := by decide +kernel
theorem dX0_skipBehind_20 : decode cX0_skipBehind 20 = .ok (.iload_n 1, 1) := by decide +kernel
theorem dX0_skipBehind_21 : decode cX0_skipBehind 21 = .ok (.iconst 1, 1) := by decide +kernel
theorem dX0_skipBehind_22 : decode cX0_skipBehind 22 = .ok (.isub, 1) := by decide +kernel
theorem dX0_skipBehind_23 : decode cX0_skipBehind 23 = .ok (.iload_n 2, 1) := by decide +kernel
theorem dX0_skipBehind_24 : decode cX0_skipBehind 24 = .ok (.iconst 1, 1) := by decide +kernel
theorem dX0_skipBehind_25 : decode cX0_skipBehind 25 = .ok (.isub, 1) := by decide +kernel
theorem dX0_skipBehind_26 : decode cX0_skipBehind 26 = .ok (.invokevirtual 31, 3) := by decide +kernel
theorem dX0_skipBehind_29 : decode cX0_skipBehind 29 = .ok (.istore 5, 2) := by decide +kernel
theorem dX0_skipBehind_31 : decode cX0_skipBehind 31 = .ok (.iload_n 3, 1) := by decide +kernel
theorem dX0_skipBehind_32 : decode cX0_skipBehind 32 = .ok (.iload 4, 2) := by decide +kernel
theorem dX0_skipBehind_34 : decode cX0_skipBehind 34 = .ok (.if_icmp .gt 11, 3) := by decide +kernel
theorem dX0_skipBehind_37 : decode cX0_skipBehind 37 = .ok (.iload_n 3, 1) := by decide +kernel
theorem dX0_skipBehind_38 : decode cX0_skipBehind 38 = .ok (.iload 5, 2) := by decide +kernel
theorem dX0_skipBehind_40 : decode cX0_skipBehind 40 = .ok (.if_icmp .gt 5, 3) := by decide +kernel
theorem dX0_skipBehind_43 : decode cX0_skipBehind 43 = .ok (.iconst 0, 1) := by decide +kernel
theorem dX0_skipBehind_44 : decode cX0_skipBehind 44 = .ok (.ireturn, 1) := by decide +kernel
theorem dX0_skipBehind_45 : decode cX0_skipBehind 45 = .ok (.iload 4, 2) := by decide +kernel
theorem dX0_skipBehind_47 : decode cX0_skipBehind 47 = .ok (.iload 5, 2) := by decide +kernel
theorem dX0_skipBehind_49 : decode cX0_skipBehind 49 = .ok (.if_icmp .gt 7, 3) := by decide +kernel
theorem dX0_skipBehind_52 : decode cX0_skipBehind 52 = .ok (.iconst 1, 1) := by decide +kernel
theorem dX0_skipBehind_53 : decode cX0_skipBehind 53 = .ok (.goto 4, 3) := by decide +kernel
theorem dX0_skipBehind_56 : decode cX0_skipBehind 56 = .ok (.iconst 2, 1) := by decide +kernel
theorem dX0_skipBehind_57 : decode cX0_skipBehind 57 = .ok (.ireturn, 1) := by decide +kernel
theorem dX0_put_0 : decode cX0_put 0 = .ok (.iload_n 1, 1) := by decide +kernel
theorem dX0_put_1 : decode cX0_put 1 = .ok (.bipush 9, 2) := by decide +kernel
theorem dX0_put_3 : decode cX0_put 3 = .ok (.imul, 1) := by decide +kernel
theorem dX0_put_4 : decode cX0_put 4 = .ok (.iload_n 2, 1) := by decide +kernel
theorem dX0_put_5 : decode cX0_put 5 = .ok (.iadd, 1) := by decide +kernel
theorem dX0_put_6 : decode cX0_put 6 = .ok (.istore 4, 2) := by decide +kernel
theorem dX0_put_8 : decode cX0_put 8 = .ok (.iload 4, 2) := by decide +kernel
theorem dX0_put_10 : decode cX0_put 10 = .ok (.ifCond .lt 21, 3) := by decide +kernel
theorem dX0_put_13 : decode cX0_put 13 = .ok (.iload 4, 2) := by decide +kernel
theorem dX0_put_15 : decode cX0_put 15 = .ok (.aload_n 0, 1) := by decide +kernel
theorem dX0_put_16 : decode cX0_put 16 = .ok (.getfield 11, 3) := by decide +kernel
theorem dX0_put_19 : decode cX0_put 19 = .ok (.arraylength, 1) := by decide +kernel
theorem dX0_put_20 : decode cX0_put 20 = .ok (.if_icmp .ge 11, 3) := by decide +kernel
theorem dX0_put_23 : decode cX0_put 23 = .ok (.aload_n 0, 1) := by decide +kernel
theorem dX0_put_24 : decode cX0_put 24 = .ok (.getfield 11, 3) := by decide +kernel
theorem dX0_put_27 : decode cX0_put 27 = .ok (.iload 4, 2) := by decide +kernel
theorem dX0_put_29 : decode cX0_put 29 = .ok (.iload_n 3, 1) := by decide +kernel
theorem dX0_put_30 : decode cX0_put 30 = .ok (.iastore, 1) := by decide +kernel
theorem dX0_put_31 : decode cX0_put 31 = .ok (.return_, 1) := by decide +kernel
theorem dX1_init_0 : decode cX1_init 0 = .ok (.aload_n 0, 1) := by decide +kernel
theorem dX1_init_1 : decode cX1_init 1 = .ok (.invokespecial 3, 3) := by decide +kernel
theorem dX1_init_4 : decode cX1_init 4 = .ok (.aload_n 0, 1) := by decide +kernel
theorem dX1_init_5 : decode cX1_init 5 = .ok (.bipush 60, 2) := by decide +kernel
theorem dX1_init_7 : decode cX1_init 7 = .ok (.newarray .int, 2) := by decide +kernel
theorem dX1_init_9 : decode cX1_init 9 = .ok (.putfield 9, 3) := by decide +kernel
theorem dX1_init_12 : decode cX1_init 12 = .ok (.aload_n 0, 1) := by decide +kernel
theorem dX1_init_13 : decode cX1_init 13 = .ok (.iconst 0, 1) := by decide +kernel
theorem dX1_init_14 : decode cX1_init 14 = .ok (.putfield 15, 3) := by decide +kernel
theorem dX1_init_17 : decode cX1_init 17 = .ok (.return_, 1) := by decide +kernel
theorem dX1_hasPlace_0 : decode cX1_hasPlace 0 = .ok (.iload_n 1, 1) := by decide +kernel
theorem dX1_hasPlace_1 : decode cX1_hasPlace 1 = .ok (.ifCond .lt 24, 3) := by decide +kernel
theorem dX1_hasPlace_4 : decode cX1_hasPlace 4 = .ok (.iload_n 1, 1) := by decide +kernel
theorem dX1_hasPlace_5 : decode cX1_hasPlace 5 = .ok (.aload_n 0, 1) := by decide +kernel
theorem dX1_hasPlace_6 : decode cX1_hasPlace 6 = .ok (.getfield 15, 3) := by decide +kernel
theorem dX1_hasPlace_9 : decode cX1_hasPlace 9 = .ok (.if_icmp .ge 16, 3) := by decide +kernel
theorem dX1_hasPlace_12 : decode cX1_hasPlace 12 = .ok (.iload_n 1, 1) := by decide +kernel
theorem dX1_hasPlace_13 : decode cX1_hasPlace 13 = .ok (.aload_n 0, 1) := by decide +kernel
theorem dX1_hasPlace_14 : decode cX1_hasPlace 14 = .ok (.getfield 9, 3) := by decide +kernel
theorem dX1_hasPlace_17 : decode cX1_hasPlace 17 = .ok (.arraylength, 1) := by decide +kernel
theorem dX1_hasPlace_18 : decode cX1_hasPlace 18 = .ok (.if_icmp .ge 7, 3) := by decide +kernel
theorem dX1_hasPlace_21 : decode cX1_hasPlace 21 = .ok (.iconst 1, 1) := by decide +kernel
theorem dX1_hasPlace_22 : decode cX1_hasPlace 22 = .ok (.goto 4, 3) := by decide +kernel
theorem dX1_hasPlace_25 : decode cX1_hasPlace 25 = .ok (.iconst 0, 1) := by decide +kernel
theorem dX1_hasPlace_26 : decode cX1_hasPlace 26 = .ok (.ireturn, 1) := by decide +kernel
set_option maxRecDepth 20000 in
theorem ggX1_at_X1_hasPlace : GoodIn wsX1_at wsX1_hasPlace := goodIn_r _ [6, 7, 1, 8, 9] (by decide +kernel) (by decide +kernel)
set_option maxRecDepth 20000 in
theorem gX1_at_X1_hasPlace : GoodIn wsX1_at (wsV RX1 19 RX1 yX1_hasPlace wsX1_hasPlace) := goodIn_app (goodIn_of _ (by decide +kernel)) ggX1_at_X1_hasPlace
theorem dX1_at_0 : decode cX1_at 0 = .ok (.aload_n 0, 1) := by decide +kernel
theorem dX1_at_1 : decode cX1_at 1 = .ok (.iload_n 1, 1) := by decide +kernel
theorem dX1_at_2 : decode cX1_at 2 = .ok (.invokevirtual 19, 3) := by decide +kernel
theorem dX1_at_5 : decode cX1_at 5 = .ok (.ifCond .eq 12, 3) := by decide +kernel
theorem dX1_at_8 : decode cX1_at 8 = .ok (.aload_n 0, 1) := by decide +kernel
theorem dX1_at_9 : decode cX1_at 9 = .ok (.getfield 9, 3) := by decide +kernel
theorem dX1_at_12 : decode cX1_at 12 = .ok (.iload_n 1, 1) := by decide +kernel
theorem dX1_at_13 : decode cX1_at 13 = .ok (.iaload, 1) := by decide +kernel
theorem dX1_at_14 : decode cX1_at 14 = .ok (.goto 4, 3) := by decide +kernel
theorem dX1_at_17 : decode cX1_at 17 = .ok (.iconst (-1), 1) := by decide +kernel
theorem dX1_at_18 : decode cX1_at 18 = .ok (.ireturn, 1) := by decide +kernel
set_option maxRecDepth 20000 in
theorem ggX1_holds_X1_at : GoodIn wsX1_holds wsX1_at := goodIn_r _ [6, 7, 8, 9, 10, 5, 11, 1, 12, 13] (by decide +kernel) (by decide +kernel)
set_option maxRecDepth 20000 in
theorem gX1_holds_X1_at : GoodIn wsX1_holds (wsV RX1 23 RX1 yX1_at wsX1_at) := goodIn_app (goodIn_of _ (by decide +kernel)) ggX1_holds_X1_at
theorem dX1_holds_0 : decode cX1_holds 0 = .ok (.iconst 0, 1) := by decide +kernel
theorem dX1_holds_1 : decode cX1_holds 1 = .ok (.istore_n 2, 1) := by decide +kernel
theorem dX1_holds_2 : decode cX1_holds 2 = .ok (.iload_n 2, 1) := by decide +kernel
theorem dX1_holds_3 : decode cX1_holds 3 = .ok (.aload_n 0, 1) := by decide +kernel
theorem dX1_holds_4 : decode cX1_holds 4 = .ok (.getfield 15, 3) := by decide +kernel
theorem dX1_holds_7 : decode cX1_holds 7 = .ok (.if_icmp .ge 20, 3) := by decide +kernel
theorem dX1_holds_10 : decode cX1_holds 10 = .ok (.aload_n 0, 1) := by decide +kernel
theorem dX1_holds_11 : decode cX1_holds 11 = .ok (.iload_n 2, 1) := by decide +kernel
theorem dX1_holds_12 : decode cX1_holds 12 = .ok (.invokevirtual 23, 3) := by decide +kernel
theorem dX1_holds_15 : decode cX1_holds 15 = .ok (.iload_n 1, 1) := by decide +kernel
theorem dX1_holds_16 : decode cX1_holds 16 = .ok (.if_icmp .ne 5, 3) := by decide +kernel
theorem dX1_holds_19 : decode cX1_holds 19 = .ok (.iconst 1, 1) := by decide +kernel
theorem dX1_holds_20 : decode cX1_holds 20 = .ok (.ireturn, 1) := by decide +kernel
theorem dX1_holds_21 : decode cX1_holds 21 = .ok (.iinc 2 1, 3) := by decide +kernel
theorem dX1_holds_24 : decode cX1_holds 24 = .ok (.goto (-22), 3) := by decide +kernel
theorem dX1_holds_27 : decode cX1_holds 27 = .ok (.iconst 0, 1) := by decide +kernel
theorem dX1_holds_28 : decode cX1_holds 28 = .ok (.ireturn, 1) := by decide +kernel
theorem dX1_addLast_0 : decode cX1_addLast 0 = .ok (.aload_n 0, 1) := by decide +kernel
theorem dX1_addLast_1 : decode cX1_addLast 1 = .ok (.getfield 15, 3) := by decide +kernel
theorem dX1_addLast_4 : decode cX1_addLast 4 = .ok (.istore_n 2, 1) := by decide +kernel
theorem dX1_addLast_5 : decode cX1_addLast 5 = .ok (.iload_n 2, 1) := by decide +kernel
theorem dX1_addLast_6 : decode cX1_addLast 6 = .ok (.ifCond .lt 26, 3) := by decide +kernel
theorem dX1_addLast_9 : decode cX1_addLast 9 = .ok (.iload_n 2, 1) := by decide +kernel
theorem dX1_addLast_10 : decode cX1_addLast 10 = .ok (.aload_n 0, 1) := by decide +kernel
theorem dX1_addLast_11 : decode cX1_addLast 11 = .ok (.getfield 9, 3) := by decide +kernel
theorem dX1_addLast_14 : decode cX1_addLast 14 = .ok (.arraylength, 1) := by decide +kernel
theorem dX1_addLast_15 : decode cX1_addLast 15 = .ok (.if_icmp .ge 17, 3) := by decide +kernel
theorem dX1_addLast_18 : decode cX1_addLast 18 = .ok (.aload_n 0, 1) := by decide +kernel
theorem dX1_addLast_19 : decode cX1_addLast 19 = .ok (.getfield 9, 3) := by decide +kernel
theorem dX1_addLast_22 : decode cX1_addLast 22 = .ok (.iload_n 2, 1) := by decide +kernel
theorem dX1_addLast_23 : decode cX1_addLast 23 = .ok (.iload_n 1, 1) := by decide +kernel
theorem dX1_addLast_24 : decode cX1_addLast 24 = .ok (.iastore, 1) := by decide +kernel
theorem dX1_addLast_25 : decode cX1_addLast 25 = .ok (.aload_n 0, 1) := by decide +kernel
theorem dX1_addLast_26 : decode cX1_addLast 26 = .ok (.iload_n 2, 1) := by decide +kernel
theorem dX1_addLast_27 : decode cX1_addLast 27 = .ok (.iconst 1, 1) := by decide +kernel
theorem dX1_addLast_28 : decode cX1_addLast 28 = .ok (.iadd, 1) := by decide +kernel
theorem dX1_addLast_29 : decode cX1_addLast 29 = .ok (.putfield 15, 3) := by decide +kernel
theorem dX1_addLast_32 : decode cX1_addLast 32 = .ok (.return_, 1) := by decide +kernel
set_option maxRecDepth 20000 in
theorem ggX1_addFirst_X1_addLast : GoodIn wsX1_addFirst wsX1_addLast := goodIn_r _ [7, 1, 2, 8, 9] (by decide +kernel) (by decide +kernel)
set_option maxRecDepth 20000 in
theorem gX1_addFirst_X1_addLast : GoodIn wsX1_addFirst (wsV RX1 27 RX1 yX1_addLast wsX1_addLast) := goodIn_app (goodIn_of _ (by decide +kernel)) ggX1_addFirst_X1_addLast
theorem dX1_addFirst_0 : decode cX1_addFirst 0 = .ok (.iload_n 1, 1) := by decide +kernel
theorem dX1_addFirst_1 : decode cX1_addFirst 1 = .ok (.istore_n 2, 1) := by decide +kernel
theorem dX1_addFirst_2 : decode cX1_addFirst 2 = .ok (.iconst 0, 1) := by decide +kernel
theorem dX1_addFirst_3 : decode cX1_addFirst 3 = .ok (.istore_n 3, 1) := by decide +kernel
theorem dX1_addFirst_4 : decode cX1_addFirst 4 = .ok (.iload_n 3, 1) := by decide +kernel
theorem dX1_addFirst_5 : decode cX1_addFirst 5 = .ok (.aload_n 0, 1) := by decide +kernel
theorem dX1_addFirst_6 : decode cX1_addFirst 6 = .ok (.getfield 15, 3) := by decide +kernel
theorem dX1_addFirst_9 : decode cX1_addFirst 9 = .ok (.if_icmp .ge 36, 3) := by decide +kernel
theorem dX1_addFirst_12 : decode cX1_addFirst 12 = .ok (.iload_n 3, 1) := by decide +kernel
theorem dX1_addFirst_13 : decode cX1_addFirst 13 = .ok (.aload_n 0, 1) := by decide +kernel
theorem dX1_addFirst_14 : decode cX1_addFirst 14 = .ok (.getfield 9, 3) := by decide +kernel
theorem dX1_addFirst_17 : decode cX1_addFirst 17 = .ok (.arraylength, 1) := by decide +kernel
theorem dX1_addFirst_18 : decode cX1_addFirst 18 = .ok (.if_icmp .ge 27, 3) := by decide +kernel
theorem dX1_addFirst_21 : decode cX1_addFirst 21 = .ok (.aload_n 0, 1) := by decide +kernel
theorem dX1_addFirst_22 : decode cX1_addFirst 22 = .ok (.getfield 9, 3) := by decide +kernel
theorem dX1_addFirst_25 : decode cX1_addFirst 25 = .ok (.iload_n 3, 1) := by decide +kernel
theorem dX1_addFirst_26 : decode cX1_addFirst 26 = .ok (.iaload, 1) := by decide +kernel
theorem dX1_addFirst_27 : decode cX1_addFirst 27 = .ok (.istore 4, 2) := by decide +kernel
theorem dX1_addFirst_29 : decode cX1_addFirst 29 = .ok (.aload_n 0, 1) := by decide +kernel
theorem dX1_addFirst_30 : decode cX1_addFirst 30 = .ok (.getfield 9, 3) := by decide +kernel
theorem dX1_addFirst_33 : decode cX1_addFirst 33 = .ok (.iload_n 3, 1) := by decide +kernel
theorem dX1_addFirst_34 : decode cX1_addFirst 34 = .ok (.iload_n 2, 1) := by decide +kernel
theorem dX1_addFirst_35 : decode cX1_addFirst 35 = .ok (.iastore, 1) := by decide +kernel
theorem dX1_addFirst_36 : decode cX1_addFirst 36 = .ok (.iload 4, 2) := by decide +kernel
theorem dX1_addFirst_38 : decode cX1_addFirst 38 = .ok (.istore_n 2, 1) := by decide +kernel
theorem dX1_addFirst_39 : decode cX1_addFirst 39 = .ok (.iinc 3 1, 3) := by decide +kernel
theorem dX1_addFirst_42 : decode cX1_addFirst 42 = .ok (.goto (-38), 3) := by decide +kernel
theorem dX1_addFirst_45 : decode cX1_addFirst 45 = .ok (.aload_n 0, 1) := by decide +kernel
theorem dX1_addFirst_46 : decode cX1_addFirst 46 = .ok (.iload_n 2, 1) := by decide +kernel
theorem dX1_addFirst_47 : decode cX1_addFirst 47 = .ok (.invokevirtual 27, 3) := by decide +kernel
theorem dX1_addFirst_50 : decode cX1_addFirst 50 = .ok (.return_, 1) := by decide +kernel
set_option maxRecDepth 20000 in
theorem ggX1_removeFirst_X1_removeAt : GoodIn wsX1_removeFirst wsX1_removeAt := goodIn_r _ [5, 6, 7, 8, 9, 10, 4, 11, 12, 13] (by decide +kernel) (by decide +kernel)
set_option maxRecDepth 20000 in
theorem gX1_removeFirst_X1_removeAt : GoodIn wsX1_removeFirst (wsV RX1 31 RX1 yX1_removeAt wsX1_removeAt) := goodIn_app (goodIn_of _ (by decide +kernel)) ggX1_removeFirst_X1_removeAt
theorem dX1_removeFirst_0 : decode cX1_removeFirst 0 = .ok (.aload_n 0, 1) := by decide +kernel
theorem dX1_removeFirst_1 : decode cX1_removeFirst 1 = .ok (.iconst 0, 1) := by decide +kernel
theorem dX1_removeFirst_2 : decode cX1_removeFirst 2 = .ok (.invokevirtual 31, 3) := by decide +kernel
theorem dX1_removeFirst_5 : decode cX1_removeFirst 5 = .ok (.return_, 1) := by decide +kernel
set_option maxRecDepth 20000 in
theorem ggX1_removeAt_X1_hasPlace : GoodIn wsX1_removeAt wsX1_hasPlace := goodIn_r _ [7, 1, 2, 8, 9] (by decide +kernel) (by decide +kernel)
set_option maxRecDepth 20000 in
theorem gX1_removeAt_X1_hasPlace : GoodIn wsX1_removeAt (wsV RX1 19 RX1 yX1_hasPlace wsX1_hasPlace) := goodIn_app (goodIn_of _ (by decide +kernel)) ggX1_removeAt_X1_hasPlace
theorem dX1_removeAt_0 : decode cX1_removeAt 0 = .ok (.aload_n 0, 1) := by decide +kernel
theorem dX1_removeAt_1 : decode cX1_removeAt 1 = .ok (.iload_n 1, 1) := by decide +kernel
theorem dX1_removeAt_2 : decode cX1_removeAt 2 = .ok (.invokevirtual 19, 3) := by decide +kernel
theorem dX1_removeAt_5 : decode cX1_removeAt 5 = .ok (.ifCond .ne 4, 3) := by decide +kernel
theorem dX1_removeAt_8 : decode cX1_removeAt 8 = .ok (.return_, 1) := by decide +kernel
theorem dX1_removeAt_9 : decode cX1_removeAt 9 = .ok (.iload_n 1, 1) := by decide +kernel
theorem dX1_removeAt_10 : decode cX1_removeAt 10 = .ok (.iconst 1, 1) := by decide +kernel
theorem dX1_removeAt_11 : decode cX1_removeAt 11 = .ok (.iadd, 1) := by decide +kernel
theorem dX1_removeAt_12 : decode cX1_removeAt 12 = .ok (.istore_n 2, 1) := by decide +kernel
theorem dX1_removeAt_13 : decode cX1_removeAt 13 = .ok (.iload_n 2, 1) := by decide +kernel
theorem dX1_removeAt_14 : decode cX1_removeAt 14 = .ok (.aload_n 0, 1) := by decide +kernel
theorem dX1_removeAt_15 : decode cX1_removeAt 15 = .ok (.getfield 15, 3) := by decide +kernel
theorem dX1_removeAt_18 : decode cX1_removeAt 18 = .ok (.if_icmp .ge 32, 3) := by decide +kernel
theorem dX1_removeAt_21 : decode cX1_removeAt 21 = .ok (.iload_n 2, 1) := by decide +kernel
theorem dX1_removeAt_22 : decode cX1_removeAt 22 = .ok (.aload_n 0, 1) := by decide +kernel
theorem dX1_removeAt_23 : decode cX1_removeAt 23 = .ok (.getfield 9, 3) := by decide +kernel
theorem dX1_removeAt_26 : decode cX1_removeAt 26 = .ok (.arraylength, 1) := by decide +kernel
theorem dX1_removeAt_27 : decode cX1_removeAt 27 = .ok (.if_icmp .ge 23, 3) := by decide +kernel
theorem dX1_removeAt_30 : decode cX1_removeAt 30 = .ok (.aload_n 0, 1) := by decide +kernel
theorem dX1_removeAt_31 : decode cX1_removeAt 31 = .ok (.getfield 9, 3) := by decide +kernel
theorem dX1_removeAt_34 : decode cX1_removeAt 34 = .ok (.iload_n 2, 1) := by decide +kernel
theorem dX1_removeAt_35 : decode cX1_removeAt 35 = .ok (.iconst 1, 1) := by decide +kernel
theorem dX1_removeAt_36 : decode cX1_removeAt 36 = .ok (.isub, 1) := by decide +kernel
theorem dX1_removeAt_37 : decode cX1_removeAt 37 = .ok (.aload_n 0, 1) := by decide +kernel
theorem dX1_removeAt_38 : decode cX1_removeAt 38 = .ok (.getfield 9, 3) := by decide +kernel
theorem dX1_removeAt_41 : decode cX1_removeAt 41 = .ok (.iload_n 2, 1) := by decide +kernel
theorem dX1_removeAt_42 : decode cX1_removeAt 42 = .ok (.iaload, 1) := by decide +kernel
theorem dX1_removeAt_43 : decode cX1_removeAt 43 = .ok (.iastore, 1) := by decide +kernel
theorem dX1_removeAt_44 : decode cX1_removeAt 44 = .ok (.iinc 2 1, 3) := by decide +kernel
theorem dX1_removeAt_47 : decode cX1_removeAt 47 = .ok (.goto (-34), 3) := by decide +kernel
theorem dX1_removeAt_50 : decode cX1_removeAt 50 = .ok (.aload_n 0, 1) := by decide +kernel
theorem dX1_removeAt_51 : decode cX1_removeAt 51 = .ok (.dup, 1) := by decide +kernel
theorem dX1_removeAt_52 : decode cX1_removeAt 52 = .ok (.getfield 15, 3) := by decide +kernel
theorem dX1_removeAt_55 : decode cX1_removeAt 55 = .ok (.iconst 1, 1) := by decide +kernel
theorem dX1_removeAt_56 : decode cX1_removeAt 56 = .ok (.isub, 1) := by decide +kernel
theorem dX1_removeAt_57 : decode cX1_removeAt 57 = .ok (.putfield 15, 3) := by decide +kernel
theorem dX1_removeAt_60 : decode cX1_removeAt 60 = .ok (.return_, 1) := by decide +kernel
set_option maxRecDepth 20000 in
theorem ggX2_init_X1_init : GoodIn wsX2_init wsX1_init := goodIn_r _ [18, 19, 2, 3, 20, 21, 22, 32, 33] (by decide +kernel) (by decide +kernel)
set_option maxRecDepth 20000 in
theorem gX2_init_X1_init_n23 : GoodIn wsX2_init (wsX1_init) := ggX2_init_X1_init
set_option maxRecDepth 20000 in
theorem ggX2_init_X0_init : GoodIn wsX2_init wsX0_init := goodIn_r _ [24, 25, 2, 3, 20, 26, 34] (by decide +kernel) (by decide +kernel)
set_option maxRecDepth 20000 in
theorem gX2_init_X0_init_n30 : GoodIn wsX2_init (wsX0_init) := ggX2_init_X0_init
theorem dX2_init_0 : decode cX2_init 0 = .ok (.aload_n 0, 1) := by decide +kernel
theorem dX2_init_1 : decode cX2_init 1 = .ok (.invokespecial 3, 3) := by decide +kernel
theorem dX2_init_4 : decode cX2_init 4 = .ok (.aload_n 0, 1) := by decide +kernel
theorem dX2_init_5 : decode cX2_init 5 = .ok (.bipush 40, 2) := by decide +kernel
theorem dX2_init_7 : decode cX2_init 7 = .ok (.anewarray 9, 3) := by decide +kernel
theorem dX2_init_10 : decode cX2_init 10 = .ok (.putfield 11, 3) := by decide +kernel
theorem dX2_init_13 : decode cX2_init 13 = .ok (.aload_n 0, 1) := by decide +kernel
theorem dX2_init_14 : decode cX2_init 14 = .ok (.bipush 50, 2) := by decide +kernel
theorem dX2_init_16 : decode cX2_init 16 = .ok (.newarray .long, 2) := by decide +kernel
theorem dX2_init_18 : decode cX2_init 18 = .ok (.putfield 17, 3) := by decide +kernel
theorem dX2_init_21 : decode cX2_init 21 = .ok (.aload_n 0, 1) := by decide +kernel
theorem dX2_init_22 : decode cX2_init 22 = .ok (.new 21, 3) := by decide +kernel
theorem dX2_init_25 : decode cX2_init 25 = .ok (.dup, 1) := by decide +kernel
theorem dX2_init_26 : decode cX2_init 26 = .ok (.invokespecial 23, 3) := by decide +kernel
theorem dX2_init_29 : decode cX2_init 29 = .ok (.putfield 24, 3) := by decide +kernel
theorem dX2_init_32 : decode cX2_init 32 = .ok (.aload_n 0, 1) := by decide +kernel
theorem dX2_init_33 : decode cX2_init 33 = .ok (.new 28, 3) := by decide +kernel
theorem dX2_init_36 : decode cX2_init 36 = .ok (.dup, 1) := by decide +kernel
theorem dX2_init_37 : decode cX2_init 37 = .ok (.invokespecial 30, 3) := by decide +kernel
theorem dX2_init_40 : decode cX2_init 40 = .ok (.putfield 31, 3) := by decide +kernel
theorem dX2_init_43 : decode cX2_init 43 = .ok (.aload_n 0, 1) := by decide +kernel
theorem dX2_init_44 : decode cX2_init 44 = .ok (.iconst 0, 1) := by decide +kernel
theorem dX2_init_45 : decode cX2_init 45 = .ok (.putfield 35, 3) := by decide +kernel
theorem dX2_init_48 : decode cX2_init 48 = .ok (.return_, 1) := by decide +kernel
theorem dX2_sentenceAt_0 : decode cX2_sentenceAt 0 = .ok (.iload_n 1, 1) := by decide +kernel
theorem dX2_sentenceAt_1 : decode cX2_sentenceAt 1 = .ok (.ifCond .lt 21, 3) := by decide +kernel
theorem dX2_sentenceAt_4 : decode cX2_sentenceAt 4 = .ok (.iload_n 1, 1) := by decide +kernel
theorem dX2_sentenceAt_5 : decode cX2_sentenceAt 5 = .ok (.aload_n 0, 1) := by decide +kernel
theorem dX2_sentenceAt_6 : decode cX2_sentenceAt 6 = .ok (.getfield 11, 3) := by decide +kernel
theorem dX2_sentenceAt_9 : decode cX2_sentenceAt 9 = .ok (.arraylength, 1) := by decide +kernel
theorem dX2_sentenceAt_10 : decode cX2_sentenceAt 10 = .ok (.if_icmp .ge 12, 3) := by decide +kernel
theorem dX2_sentenceAt_13 : decode cX2_sentenceAt 13 = .ok (.aload_n 0, 1) := by decide +kernel
theorem dX2_sentenceAt_14 : decode cX2_sentenceAt 14 = .ok (.getfield 11, 3) := by decide +kernel
theorem dX2_sentenceAt_17 : decode cX2_sentenceAt 17 = .ok (.iload_n 1, 1) := by decide +kernel
theorem dX2_sentenceAt_18 : decode cX2_sentenceAt 18 = .ok (.aaload, 1) := by decide +kernel
theorem dX2_sentenceAt_19 : decode cX2_sentenceAt 19 = .ok (.goto 4, 3) := by decide +kernel
theorem dX2_sentenceAt_22 : decode cX2_sentenceAt 22 = .ok (.aconst_null, 1) := by decide +kernel
theorem dX2_sentenceAt_23 : decode cX2_sentenceAt 23 = .ok (.areturn, 1) := by decide +kernel
set_option maxRecDepth 20000 in
theorem ggX2_keep_X4_at : GoodIn wsX2_keep wsX4_at := goodIn_r _ [8, 9, 10, 19, 20] (by decide +kernel) (by decide +kernel)
set_option maxRecDepth 20000 in
theorem gX2_keep_X4_at : GoodIn wsX2_keep (wsV RX2 48 RX4 yX4_at wsX4_at) := goodIn_app (goodIn_of _ (by decide +kernel)) ggX2_keep_X4_at
theorem dX2_keep_0 : decode cX2_keep 0 = .ok (.aload_n 0, 1) := by decide +kernel
theorem dX2_keep_1 : decode cX2_keep 1 = .ok (.getfield 35, 3) := by decide +kernel
theorem dX2_keep_4 : decode cX2_keep 4 = .ok (.istore_n 2, 1) := by decide +kernel
theorem dX2_keep_5 : decode cX2_keep 5 = .ok (.iload_n 2, 1) := by decide +kernel
theorem dX2_keep_6 : decode cX2_keep 6 = .ok (.ifCond .lt 12, 3) := by decide +kernel
theorem dX2_keep_9 : decode cX2_keep 9 = .ok (.iload_n 2, 1) := by decide +kernel
theorem dX2_keep_10 : decode cX2_keep 10 = .ok (.aload_n 0, 1) := by decide +kernel
theorem dX2_keep_11 : decode cX2_keep 11 = .ok (.getfield 11, 3) := by decide +kernel
theorem dX2_keep_14 : decode cX2_keep 14 = .ok (.arraylength, 1) := by decide +kernel
theorem dX2_keep_15 : decode cX2_keep 15 = .ok (.if_icmp .lt 5, 3) := by decide +kernel
theorem dX2_keep_18 : decode cX2_keep 18 = .ok (.iconst (-1), 1) := by decide +kernel
theorem dX2_keep_19 : decode cX2_keep 19 = .ok (.ireturn, 1) := by decide +kernel
theorem dX2_keep_20 : decode cX2_keep 20 = .ok (.aload_n 0, 1) := by decide +kernel
theorem dX2_keep_21 : decode cX2_keep 21 = .ok (.getfield 11, 3) := by decide +kernel
theorem dX2_keep_24 : decode cX2_keep 24 = .ok (.iload_n 2, 1) := by decide +kernel
theorem dX2_keep_25 : decode cX2_keep 25 = .ok (.aload_n 1, 1) := by decide +kernel
theorem dX2_keep_26 : decode cX2_keep 26 = .ok (.aastore, 1) := by decide +kernel
theorem dX2_keep_27 : decode cX2_keep 27 = .ok (.iconst 0, 1) := by decide +kernel
theorem dX2_keep_28 : decode cX2_keep 28 = .ok (.istore_n 3, 1) := by decide +kernel
theorem dX2_keep_29 : decode cX2_keep 29 = .ok (.iload_n 3, 1) := by decide +kernel
theorem dX2_keep_30 : decode cX2_keep 30 = .ok (.aload_n 1, 1) := by decide +kernel
theorem dX2_keep_31 : decode cX2_keep 31 = .ok (.getfield 39, 3) := by decide +kernel
theorem dX2_keep_34 : decode cX2_keep 34 = .ok (.getfield 43, 3) := by decide +kernel
theorem dX2_keep_37 : decode cX2_keep 37 = .ok (.if_icmp .ge 47, 3) := by decide +kernel
theorem dX2_keep_40 : decode cX2_keep 40 = .ok (.aload_n 1, 1) := by decide +kernel
theorem dX2_keep_41 : decode cX2_keep 41 = .ok (.getfield 39, 3) := by decide +kernel
theorem dX2_keep_44 : decode cX2_keep 44 = .ok (.iload_n 3, 1) := by decide +kernel
theorem dX2_keep_45 : decode cX2_keep 45 = .ok (.invokevirtual 48, 3) := by decide +kernel
theorem dX2_keep_48 : decode cX2_keep 48 = .ok (.istore 4, 2) := by decide +kernel
theorem dX2_keep_50 : decode cX2_keep 50 = .ok (.iload 4, 2) := by decide +kernel
theorem dX2_keep_52 : decode cX2_keep 52 = .ok (.ifCond .lt 26, 3) := by decide +kernel
theorem dX2_keep_55 : decode cX2_keep 55 = .ok (.iload 4, 2) := by decide +kernel
theorem dX2_keep_57 : decode cX2_keep 57 = .ok (.aload_n 0, 1) := by decide +kernel
theorem dX2_keep_58 : decode cX2_keep 58 = .ok (.getfield 17, 3) := by decide +kernel
theorem dX2_keep_61 : decode cX2_keep 61 = .ok (.arraylength, 1) := by decide +kernel
theorem dX2_keep_62 : decode cX2_keep 62 = .ok (.if_icmp .ge 16, 3) := by decide +kernel
theorem dX2_keep_65 : decode cX2_keep 65 = .ok (.aload_n 0, 1) := by decide +kernel
theorem dX2_keep_66 : decode cX2_keep 66 = .ok (.getfield 17, 3) := by decide +kernel
theorem dX2_keep_69 : decode cX2_keep 69 = .ok (.iload 4, 2) := by decide +kernel
theorem dX2_keep_71 : decode cX2_keep 71 = .ok (.dup2, 1) := by decide +kernel
theorem dX2_keep_72 : decode cX2_keep 72 = .ok (.laload, 1) := by decide +kernel
theorem dX2_keep_73 : decode cX2_keep 73 = .ok (.lconst 1, 1) := by decide +kernel
theorem dX2_keep_74 : decode cX2_keep 74 = .ok (.iload_n 2, 1) := by decide +kernel
theorem dX2_keep_75 : decode cX2_keep 75 = .ok (.lshl, 1) := by decide +kernel
theorem dX2_keep_76 : decode cX2_keep 76 = .ok (.lor, 1) := by decide +kernel
theorem dX2_keep_77 : decode cX2_keep 77 = .ok (.lastore, 1) := by decide +kernel
theorem dX2_keep_78 : decode cX2_keep 78 = .ok (.iinc 3 1, 3) := by decide +kernel
theorem dX2_keep_81 : decode cX2_keep 81 = .ok (.goto (-52), 3) := by decide +kernel
theorem dX2_keep_84 : decode cX2_keep 84 = .ok (.aload_n 0, 1) := by decide +kernel
theorem dX2_keep_85 : decode cX2_keep 85 = .ok (.iload_n 2, 1) := by decide +kernel
theorem dX2_keep_86 : decode cX2_keep 86 = .ok (.iconst 1, 1) := by decide +kernel
theorem dX2_keep_87 : decode cX2_keep 87 = .ok (.iadd, 1) := by decide +kernel
theorem dX2_keep_88 : decode cX2_keep 88 = .ok (.putfield 35, 3) := by decide +kernel
theorem dX2_keep_91 : decode cX2_keep 91 = .ok (.iload_n 2, 1) := by decide +kernel
theorem dX2_keep_92 : decode cX2_keep 92 = .ok (.ireturn, 1) := by decide +kernel
set_option maxRecDepth 20000 in
theorem ggX2_listDue_X1_at : GoodIn wsX2_listDue wsX1_at := goodIn_r _ [7, 8, 9, 10, 11, 6, 12, 13, 66, 67] (by decide +kernel) (by decide +kernel)
set_option maxRecDepth 20000 in
theorem gX2_listDue_X1_at : GoodIn wsX2_listDue (wsV RX2 53 RX1 yX1_at wsX1_at) := goodIn_app (goodIn_of _ (by decide +kernel)) ggX2_listDue_X1_at
set_option maxRecDepth 20000 in
theorem ggX2_listDue_X2_sentenceAt : GoodIn wsX2_listDue wsX2_sentenceAt := goodIn_r _ [18, 19, 61, 62, 63, 64, 65] (by decide +kernel) (by decide +kernel)
set_option maxRecDepth 20000 in
theorem gX2_listDue_X2_sentenceAt : GoodIn wsX2_listDue (wsV RX2 54 RX2 yX2_sentenceAt wsX2_sentenceAt) := goodIn_app (goodIn_of _ (by decide +kernel)) ggX2_listDue_X2_sentenceAt
set_option maxRecDepth 20000 in
theorem ggX2_listDue_X6_firstAstray : GoodIn wsX2_listDue wsX6_firstAstray := goodIn_r _ [24, 25, 26, 27, 28, 23, 29, 30, 31, 32, 33, 34, 35, 36, 37, 38, 39, 40, 41, 42, 43, 44, 45, 46, 47, 68, 69, 70, 71, 72, 73, 74, 75] (by decide +kernel) (by decide +kernel)
set_option maxRecDepth 20000 in
theorem gX2_listDue_X6_firstAstray : GoodIn wsX2_listDue (wsV RX2 58 RX6 yX6_firstAstray wsX6_firstAstray) := goodIn_app (goodIn_of _ (by decide +kernel)) ggX2_listDue_X6_firstAstray
set_option maxRecDepth 20000 in
theorem ggX2_listDue_X1_removeAt : GoodIn wsX2_listDue wsX1_removeAt := goodIn_r _ [51, 13, 8, 9, 10, 11, 6, 12, 66, 67] (by decide +kernel) (by decide +kernel)
set_option maxRecDepth 20000 in
theorem gX2_listDue_X1_removeAt : GoodIn wsX2_listDue (wsV RX2 62 RX1 yX1_removeAt wsX1_removeAt) := goodIn_app (goodIn_of _ (by decide +kernel)) ggX2_listDue_X1_removeAt
set_option maxRecDepth 20000 in
theorem ggX2_listDue_X1_holds : GoodIn wsX2_listDue wsX1_holds := goodIn_r _ [55, 13, 56, 4, 5, 6, 7, 8, 9, 10, 11, 12, 66, 67] (by decide +kernel) (by decide +kernel)
set_option maxRecDepth 20000 in
theorem gX2_listDue_X1_holds : GoodIn wsX2_listDue (wsV RX2 66 RX1 yX1_holds wsX1_holds) := goodIn_app (goodIn_of _ (by decide +kernel)) ggX2_listDue_X1_holds
set_option maxRecDepth 20000 in
theorem ggX2_listDue_X1_addLast : GoodIn wsX2_listDue wsX1_addLast := goodIn_r _ [60, 13, 8, 66, 67] (by decide +kernel) (by decide +kernel)
set_option maxRecDepth 20000 in
theorem gX2_listDue_X1_addLast : GoodIn wsX2_listDue (wsV RX2 70 RX1 yX1_addLast wsX1_addLast) := goodIn_app (goodIn_of _ (by decide +kernel)) ggX2_listDue_X1_addLast
theorem dX2_listDue_0 : decode cX2_listDue 0 = .ok (.aload_n 0, 1) := by decide +kernel
theorem dX2_listDue_1 : decode cX2_listDue 1 = .ok (.getfield 24, 3) := by decide +kernel
theorem dX2_listDue_4 : decode cX2_listDue 4 = .ok (.getfield 52, 3) := by decide +kernel
theorem dX2_listDue_7 : decode cX2_listDue 7 = .ok (.iconst 1, 1) := by decide +kernel
theorem dX2_listDue_8 : decode cX2_listDue 8 = .ok (.isub, 1) := by decide +kernel
theorem dX2_listDue_9 : decode cX2_listDue 9 = .ok (.istore_n 2, 1) := by decide +kernel
theorem dX2_listDue_10 : decode cX2_listDue 10 = .ok (.iload_n 2, 1) := by decide +kernel
theorem dX2_listDue_11 : decode cX2_listDue 11 = .ok (.ifCond .lt 43, 3) := by decide +kernel
theorem dX2_listDue_14 : decode cX2_listDue 14 = .ok (.aload_n 0, 1) := by decide +kernel
theorem dX2_listDue_15 : decode cX2_listDue 15 = .ok (.aload_n 0, 1) := by decide +kernel
theorem dX2_listDue_16 : decode cX2_listDue 16 = .ok (.getfield 24, 3) := by decide +kernel
theorem dX2_listDue_19 : decode cX2_listDue 19 = .ok (.iload_n 2, 1) := by decide +kernel
theorem dX2_listDue_20 : decode cX2_listDue 20 = .ok (.invokevirtual 53, 3) := by decide +kernel
theorem dX2_listDue_23 : decode cX2_listDue 23 = .ok (.invokevirtual 54, 3) := by decide +kernel
theorem dX2_listDue_26 : decode cX2_listDue 26 = .ok (.astore_n 3, 1) := by decide +kernel
theorem dX2_listDue_27 : decode cX2_listDue 27 = .ok (.aload_n 3, 1) := by decide +kernel
theorem dX2_listDue_28 : decode cX2_listDue 28 = .ok (.ifnull 12, 3) := by decide +kernel
theorem dX2_listDue_31 : decode cX2_listDue 31 = .ok (.aload_n 3, 1) := by decide +kernel
theorem dX2_listDue_32 : decode cX2_listDue 32 = .ok (.aload_n 1, 1) := by decide +kernel
theorem dX2_listDue_33 : decode cX2_listDue 33 = .ok (.invokevirtual 58, 3) := by decide +kernel
theorem dX2_listDue_36 : decode cX2_listDue 36 = .ok (.iconst (-1), 1) := by decide +kernel
theorem dX2_listDue_37 : decode cX2_listDue 37 = .ok (.if_icmp .ne 11, 3) := by decide +kernel
theorem dX2_listDue_40 : decode cX2_listDue 40 = .ok (.aload_n 0, 1) := by decide +kernel
theorem dX2_listDue_41 : decode cX2_listDue 41 = .ok (.getfield 24, 3) := by decide +kernel
theorem dX2_listDue_44 : decode cX2_listDue 44 = .ok (.iload_n 2, 1) := by decide +kernel
theorem dX2_listDue_45 : decode cX2_listDue 45 = .ok (.invokevirtual 62, 3) := by decide +kernel
theorem dX2_listDue_48 : decode cX2_listDue 48 = .ok (.iinc 2 (-1), 3) := by decide +kernel
theorem dX2_listDue_51 : decode cX2_listDue 51 = .ok (.goto (-41), 3) := by decide +kernel
theorem dX2_listDue_54 : decode cX2_listDue 54 = .ok (.iconst 0, 1) := by decide +kernel
theorem dX2_listDue_55 : decode cX2_listDue 55 = .ok (.istore_n 2, 1) := by decide +kernel
theorem dX2_listDue_56 : decode cX2_listDue 56 = .ok (.iload_n 2, 1) := by decide +kernel
theorem dX2_listDue_57 : decode cX2_listDue 57 = .ok (.aload_n 0, 1) := by decide +kernel
theorem dX2_listDue_58 : decode cX2_listDue 58 = .ok (.getfield 35, 3) := by decide +kernel
theorem dX2_listDue_61 : decode cX2_listDue 61 = .ok (.if_icmp .ge 47, 3) := by decide +kernel
theorem dX2_listDue_64 : decode cX2_listDue 64 = .ok (.aload_n 0, 1) := by decide +kernel
theorem dX2_listDue_65 : decode cX2_listDue 65 = .ok (.iload_n 2, 1) := by decide +kernel
theorem dX2_listDue_66 : decode cX2_listDue 66 = .ok (.invokevirtual 54, 3) := by decide +kernel
theorem dX2_listDue_69 : decode cX2_listDue 69 = .ok (.astore_n 3, 1) := by decide +kernel
theorem dX2_listDue_70 : decode cX2_listDue 70 = .ok (.aload_n 3, 1) := by decide +kernel
theorem dX2_listDue_71 : decode cX2_listDue 71 = .ok (.ifnull 31, 3) := by decide +kernel
theorem dX2_listDue_74 : decode cX2_listDue 74 = .ok (.aload_n 3, 1) := by decide +kernel
theorem dX2_listDue_75 : decode cX2_listDue 75 = .ok (.aload_n 1, 1) := by decide +kernel
theorem dX2_listDue_76 : decode cX2_listDue 76 = .ok (.invokevirtual 58, 3) := by decide +kernel
theorem dX2_listDue_79 : decode cX2_listDue 79 = .ok (.iconst (-1), 1) := by decide +kernel
theorem dX2_listDue_80 : decode cX2_listDue 80 = .ok (.if_icmp .eq 22, 3) := by decide +kernel
theorem dX2_listDue_83 : decode cX2_listDue 83 = .ok (.aload_n 0, 1) := by decide +kernel
theorem dX2_listDue_84 : decode cX2_listDue 84 = .ok (.getfield 24, 3) := by decide +kernel
theorem dX2_listDue_87 : decode cX2_listDue 87 = .ok (.iload_n 2, 1) := by decide +kernel
theorem dX2_listDue_88 : decode cX2_listDue 88 = .ok (.invokevirtual 66, 3) := by decide +kernel
theorem dX2_listDue_91 : decode cX2_listDue 91 = .ok (.ifCond .ne 11, 3) := by decide +kernel
theorem dX2_listDue_94 : decode cX2_listDue 94 = .ok (.aload_n 0, 1) := by decide +kernel
theorem dX2_listDue_95 : decode cX2_listDue 95 = .ok (.getfield 24, 3) := by decide +kernel
theorem dX2_listDue_98 : decode cX2_listDue 98 = .ok (.iload_n 2, 1) := by decide +kernel
theorem dX2_listDue_99 : decode cX2_listDue 99 = .ok (.invokevirtual 70, 3) := by decide +kernel
theorem dX2_listDue_102 : decode cX2_listDue 102 = .ok (.iinc 2 1, 3) := by decide +kernel
theorem dX2_listDue_105 : decode cX2_listDue 105 = .ok (.goto (-49), 3) := by decide +kernel
theorem dX2_listDue_108 : decode cX2_listDue 108 = .ok (.return_, 1) := by decide +kernel
set_option maxRecDepth 20000 in
theorem ggX2_sharingWith_X4_at : GoodIn wsX2_sharingWith wsX4_at := goodIn_r _ [6, 7, 8, 9, 10] (by decide +kernel) (by decide +kernel)
set_option maxRecDepth 20000 in
theorem gX2_sharingWith_X4_at : GoodIn wsX2_sharingWith (wsV RX2 48 RX4 yX4_at wsX4_at) := goodIn_app (goodIn_of _ (by decide +kernel)) ggX2_sharingWith_X4_at
theorem dX2_sharingWith_0 : decode cX2_sharingWith 0 = .ok (.lconst 0, 1) := by decide +kernel
theorem dX2_sharingWith_1 : decode cX2_sharingWith 1 = .ok (.lstore_n 2, 1) := by decide +kernel
theorem dX2_sharingWith_2 : decode cX2_sharingWith 2 = .ok (.iconst 0, 1) := by decide +kernel
theorem dX2_sharingWith_3 : decode cX2_sharingWith 3 = .ok (.istore 4, 2) := by decide +kernel
theorem dX2_sharingWith_5 : decode cX2_sharingWith 5 = .ok (.iload 4, 2) := by decide +kernel
theorem dX2_sharingWith_7 : decode cX2_sharingWith 7 = .ok (.aload_n 1, 1) := by decide +kernel
theorem dX2_sharingWith_8 : decode cX2_sharingWith 8 = .ok (.getfield 43, 3) := by decide +kernel
theorem dX2_sharingWith_11 : decode cX2_sharingWith 11 = .ok (.if_icmp .ge 42, 3) := by decide +kernel
theorem dX2_sharingWith_14 : decode cX2_sharingWith 14 = .ok (.aload_n 1, 1) := by decide +kernel
theorem dX2_sharingWith_15 : decode cX2_sharingWith 15 = .ok (.iload 4, 2) := by decide +kernel
theorem dX2_sharingWith_17 : decode cX2_sharingWith 17 = .ok (.invokevirtual 48, 3) := by decide +kernel
theorem dX2_sharingWith_20 : decode cX2_sharingWith 20 = .ok (.istore 5, 2) := by decide +kernel
theorem dX2_sharingWith_22 : decode cX2_sharingWith 22 = .ok (.iload 5, 2) := by decide +kernel
theorem dX2_sharingWith_24 : decode cX2_sharingWith 24 = .ok (.ifCond .lt 23, 3) := by decide +kernel
theorem dX2_sharingWith_27 : decode cX2_sharingWith 27 = .ok (.iload 5, 2) := by decide +kernel
theorem dX2_sharingWith_29 : decode cX2_sharingWith 29 = .ok (.aload_n 0, 1) := by decide +kernel
theorem dX2_sharingWith_30 : decode cX2_sharingWith 30 = .ok (.getfield 17, 3) := by decide +kernel
theorem dX2_sharingWith_33 : decode cX2_sharingWith 33 = .ok (.arraylength, 1) := by decide +kernel
theorem dX2_sharingWith_34 : decode cX2_sharingWith 34 = .ok (.if_icmp .ge 13, 3) := by decide +kernel
theorem dX2_sharingWith_37 : decode cX2_sharingWith 37 = .ok (.lload_n 2, 1) := by decide +kernel
theorem dX2_sharingWith_38 : decode cX2_sharingWith 38 = .ok (.aload_n 0, 1) := by decide +kernel
theorem dX2_sharingWith_39 : decode cX2_sharingWith 39 = .ok (.getfield 17, 3) := by decide +kernel
theorem dX2_sharingWith_42 : decode cX2_sharingWith 42 = .ok (.iload 5, 2) := by decide +kernel
theorem dX2_sharingWith_44 : decode cX2_sharingWith 44 = .ok (.laload, 1) := by decide +kernel
theorem dX2_sharingWith_45 : decode cX2_sharingWith 45 = .ok (.lor, 1) := by decide +kernel
theorem dX2_sharingWith_46 : decode cX2_sharingWith 46 = .ok (.lstore_n 2, 1) := by decide +kernel
theorem dX2_sharingWith_47 : decode cX2_sharingWith 47 = .ok (.iinc 4 1, 3) := by decide +kernel
theorem dX2_sharingWith_50 : decode cX2_sharingWith 50 = .ok (.goto (-45), 3) := by decide +kernel
theorem dX2_sharingWith_53 : decode cX2_sharingWith 53 = .ok (.lload_n 2, 1) := by decide +kernel
theorem dX2_sharingWith_54 : decode cX2_sharingWith 54 = .ok (.lreturn, 1) := by decide +kernel
set_option maxRecDepth 20000 in
theorem ggX2_bestAmong_X2_sentenceAt : GoodIn wsX2_bestAmong wsX2_sentenceAt := goodIn_r _ [8, 9, 61, 62, 63, 64, 65] (by decide +kernel) (by decide +kernel)
set_option maxRecDepth 20000 in
theorem gX2_bestAmong_X2_sentenceAt : GoodIn wsX2_bestAmong (wsV RX2 54 RX2 yX2_sentenceAt wsX2_sentenceAt) := goodIn_app (goodIn_of _ (by decide +kernel)) ggX2_bestAmong_X2_sentenceAt
set_option maxRecDepth 20000 in
theorem ggX2_bestAmong_X1_holds : GoodIn wsX2_bestAmong wsX1_holds := goodIn_r _ [14, 15, 16, 17, 18, 13, 19, 20, 21, 22, 23, 24, 69, 70] (by decide +kernel) (by decide +kernel)
set_option maxRecDepth 20000 in
theorem gX2_bestAmong_X1_holds : GoodIn wsX2_bestAmong (wsV RX2 66 RX1 yX1_holds wsX1_holds) := goodIn_app (goodIn_of _ (by decide +kernel)) ggX2_bestAmong_X1_holds
set_option maxRecDepth 20000 in
theorem ggX2_bestAmong_X0_likenessOf : GoodIn wsX2_bestAmong wsX0_likenessOf := goodIn_r _ [29, 30, 31, 32, 33, 34, 35, 36, 28, 37, 38, 39, 40, 41, 42, 43, 44, 45, 46, 47, 48, 49, 50, 51, 52, 53, 54, 55, 56, 57, 58, 59, 60, 71, 72, 73] (by decide +kernel) (by decide +kernel)
set_option maxRecDepth 20000 in
theorem gX2_bestAmong_X0_likenessOf : GoodIn wsX2_bestAmong (wsV RX2 73 RX0 yX0_likenessOf wsX0_likenessOf) := goodIn_app (goodIn_of _ (by decide +kernel)) ggX2_bestAmong_X0_likenessOf
theorem dX2_bestAmong_0 : decode cX2_bestAmong 0 = .ok (.iconst (-1), 1) := by decide +kernel
theorem dX2_bestAmong_1 : decode cX2_bestAmong 1 = .ok (.istore 6, 2) := by decide +kernel
theorem dX2_bestAmong_3 : decode cX2_bestAmong 3 = .ok (.iconst 0, 1) := by decide +kernel
theorem dX2_bestAmong_4 : decode cX2_bestAmong 4 = .ok (.istore 7, 2) := by decide +kernel
theorem dX2_bestAmong_6 : decode cX2_bestAmong 6 = .ok (.iconst 0, 1) := by decide +kernel
theorem dX2_bestAmong_7 : decode cX2_bestAmong 7 = .ok (.istore 8, 2) := by decide +kernel
theorem dX2_bestAmong_9 : decode cX2_bestAmong 9 = .ok (.iconst 0, 1) := by decide +kernel
theorem dX2_bestAmong_10 : decode cX2_bestAmong 10 = .ok (.istore 9, 2) := by decide +kernel
theorem dX2_bestAmong_12 : decode cX2_bestAmong 12 = .ok (.iload 9, 2) := by decide +kernel
theorem dX2_bestAmong_14 : decode cX2_bestAmong 14 = .ok (.aload_n 0, 1) := by decide +kernel
theorem dX2_bestAmong_15 : decode cX2_bestAmong 15 = .ok (.getfield 35, 3) := by decide +kernel
theorem dX2_bestAmong_18 : decode cX2_bestAmong 18 = .ok (.if_icmp .ge 135, 3) := by decide +kernel
theorem dX2_bestAmong_21 : decode cX2_bestAmong 21 = .ok (.aload_n 0, 1) := by decide +kernel
theorem dX2_bestAmong_22 : decode cX2_bestAmong 22 = .ok (.iload 9, 2) := by decide +kernel
theorem dX2_bestAmong_24 : decode cX2_bestAmong 24 = .ok (.invokevirtual 54, 3) := by decide +kernel
theorem dX2_bestAmong_27 : decode cX2_bestAmong 27 = .ok (.astore 10, 2) := by decide +kernel
theorem dX2_bestAmong_29 : decode cX2_bestAmong 29 = .ok (.aload 10, 2) := by decide +kernel
theorem dX2_bestAmong_31 : decode cX2_bestAmong 31 = .ok (.ifnull 116, 3) := by decide +kernel
theorem dX2_bestAmong_34 : decode cX2_bestAmong 34 = .ok (.lload_n 1, 1) := by decide +kernel
theorem dX2_bestAmong_35 : decode cX2_bestAmong 35 = .ok (.iload 9, 2) := by decide +kernel
theorem dX2_bestAmong_37 : decode cX2_bestAmong 37 = .ok (.lshr, 1) := by decide +kernel
theorem dX2_bestAmong_38 : decode cX2_bestAmong 38 = .ok (.lconst 1, 1) := by decide +kernel
theorem dX2_bestAmong_39 : decode cX2_bestAmong 39 = .ok (.land, 1) := by decide +kernel
theorem dX2_bestAmong_40 : decode cX2_bestAmong 40 = .ok (.lconst 0, 1) := by decide +kernel
theorem dX2_bestAmong_41 : decode cX2_bestAmong 41 = .ok (.lcmp, 1) := by decide +kernel
theorem dX2_bestAmong_42 : decode cX2_bestAmong 42 = .ok (.ifCond .eq 105, 3) := by decide +kernel
theorem dX2_bestAmong_45 : decode cX2_bestAmong 45 = .ok (.aload_n 0, 1) := by decide +kernel
theorem dX2_bestAmong_46 : decode cX2_bestAmong 46 = .ok (.getfield 24, 3) := by decide +kernel
theorem dX2_bestAmong_49 : decode cX2_bestAmong 49 = .ok (.iload 9, 2) := by decide +kernel
theorem dX2_bestAmong_51 : decode cX2_bestAmong 51 = .ok (.invokevirtual 66, 3) := by decide +kernel
theorem dX2_bestAmong_54 : decode cX2_bestAmong 54 = .ok (.ifCond .eq 6, 3) := by decide +kernel
theorem dX2_bestAmong_57 : decode cX2_bestAmong 57 = .ok (.goto 90, 3) := by decide +kernel
theorem dX2_bestAmong_60 : decode cX2_bestAmong 60 = .ok (.aload_n 0, 1) := by decide +kernel
theorem dX2_bestAmong_61 : decode cX2_bestAmong 61 = .ok (.getfield 31, 3) := by decide +kernel
theorem dX2_bestAmong_64 : decode cX2_bestAmong 64 = .ok (.aload_n 3, 1) := by decide +kernel
theorem dX2_bestAmong_65 : decode cX2_bestAmong 65 = .ok (.aload 10, 2) := by decide +kernel
theorem dX2_bestAmong_67 : decode cX2_bestAmong 67 = .ok (.getfield 39, 3) := by decide +kernel
theorem dX2_bestAmong_70 : decode cX2_bestAmong 70 = .ok (.invokevirtual 73, 3) := by decide +kernel
theorem dX2_bestAmong_73 : decode cX2_bestAmong 73 = .ok (.istore 11, 2) := by decide +kernel
theorem dX2_bestAmong_75 : decode cX2_bestAmong 75 = .ok (.aload 10, 2) := by decide +kernel
theorem dX2_bestAmong_77 : decode cX2_bestAmong 77 = .ok (.getfield 77, 3) := by decide +kernel
theorem dX2_bestAmong_80 : decode cX2_bestAmong 80 = .ok (.iload 4, 2) := by decide +kernel
theorem dX2_bestAmong_82 : decode cX2_bestAmong 82 = .ok (.if_icmp .ne 7, 3) := by decide +kernel
theorem dX2_bestAmong_85 : decode cX2_bestAmong 85 = .ok (.iconst 1, 1) := by decide +kernel
theorem dX2_bestAmong_86 : decode cX2_bestAmong 86 = .ok (.goto 4, 3) := by decide +kernel
theorem dX2_bestAmong_89 : decode cX2_bestAmong 89 = .ok (.iconst 0, 1) := by decide +kernel
theorem dX2_bestAmong_90 : decode cX2_bestAmong 90 = .ok (.istore 12, 2) := by decide +kernel
theorem dX2_bestAmong_92 : decode cX2_bestAmong 92 = .ok (.iload 11, 2) := by decide +kernel
theorem dX2_bestAmong_94 : decode cX2_bestAmong 94 = .ok (.iload 7, 2) := by decide +kernel
theorem dX2_bestAmong_96 : decode cX2_bestAmong 96 = .ok (.if_icmp .ne 17, 3) := by decide +kernel
theorem dX2_bestAmong_99 : decode cX2_bestAmong 99 = .ok (.iload 12, 2) := by decide +kernel
theorem dX2_bestAmong_101 : decode cX2_bestAmong 101 = .ok (.ifCond .ne 8, 3) := by decide +kernel
theorem dX2_bestAmong_104 : decode cX2_bestAmong 104 = .ok (.iload 8, 2) := by decide +kernel
theorem dX2_bestAmong_106 : decode cX2_bestAmong 106 = .ok (.ifCond .ne 7, 3) := by decide +kernel
theorem dX2_bestAmong_109 : decode cX2_bestAmong 109 = .ok (.iconst 1, 1) := by decide +kernel
theorem dX2_bestAmong_110 : decode cX2_bestAmong 110 = .ok (.goto 4, 3) := by decide +kernel
theorem dX2_bestAmong_113 : decode cX2_bestAmong 113 = .ok (.iconst 0, 1) := by decide +kernel
theorem dX2_bestAmong_114 : decode cX2_bestAmong 114 = .ok (.istore 13, 2) := by decide +kernel
theorem dX2_bestAmong_116 : decode cX2_bestAmong 116 = .ok (.iload 11, 2) := by decide +kernel
theorem dX2_bestAmong_118 : decode cX2_bestAmong 118 = .ok (.iload 5, 2) := by decide +kernel
theorem dX2_bestAmong_120 : decode cX2_bestAmong 120 = .ok (.if_icmp .lt 27, 3) := by decide +kernel
theorem dX2_bestAmong_123 : decode cX2_bestAmong 123 = .ok (.iload 11, 2) := by decide +kernel
theorem dX2_bestAmong_125 : decode cX2_bestAmong 125 = .ok (.iload 7, 2) := by decide +kernel
theorem dX2_bestAmong_127 : decode cX2_bestAmong 127 = .ok (.if_icmp .gt 8, 3) := by decide +kernel
theorem dX2_bestAmong_130 : decode cX2_bestAmong 130 = .ok (.iload 13, 2) := by decide +kernel
theorem dX2_bestAmong_132 : decode cX2_bestAmong 132 = .ok (.ifCond .eq 15, 3) := by decide +kernel
theorem dX2_bestAmong_135 : decode cX2_bestAmong 135 = .ok (.iload 9, 2) := by decide +kernel
theorem dX2_bestAmong_137 : decode cX2_bestAmong 137 = .ok (.istore 6, 2) := by decide +kernel
theorem dX2_bestAmong_139 : decode cX2_bestAmong 139 = .ok (.iload 11, 2) := by decide +kernel
theorem dX2_bestAmong_141 : decode cX2_bestAmong 141 = .ok (.istore 7, 2) := by decide +kernel
theorem dX2_bestAmong_143 : decode cX2_bestAmong 143 = .ok (.iload 12, 2) := by decide +kernel
theorem dX2_bestAmong_145 : decode cX2_bestAmong 145 = .ok (.istore 8, 2) := by decide +kernel
theorem dX2_bestAmong_147 : decode cX2_bestAmong 147 = .ok (.iinc 9 1, 3) := by decide +kernel
theorem dX2_bestAmong_150 : decode cX2_bestAmong 150 = .ok (.goto (-138), 3) := by decide +kernel
theorem dX2_bestAmong_153 : decode cX2_bestAmong 153 = .ok (.iload 6, 2) := by decide +kernel
theorem dX2_bestAmong_155 : decode cX2_bestAmong 155 = .ok (.ireturn, 1) := by decide +kernel
set_option maxRecDepth 20000 in
theorem ggX2_shareOf_X2_sentenceAt : GoodIn wsX2_shareOf wsX2_sentenceAt := goodIn_r _ [6, 7, 44, 45, 46, 47, 48] (by decide +kernel) (by decide +kernel)
set_option maxRecDepth 20000 in
theorem gX2_shareOf_X2_sentenceAt : GoodIn wsX2_shareOf (wsV RX2 54 RX2 yX2_sentenceAt wsX2_sentenceAt) := goodIn_app (goodIn_of _ (by decide +kernel)) ggX2_shareOf_X2_sentenceAt
set_option maxRecDepth 20000 in
theorem ggX2_shareOf_X0_likenessOf : GoodIn wsX2_shareOf wsX0_likenessOf := goodIn_r _ [12, 13, 14, 15, 16, 17, 18, 19, 11, 20, 21, 22, 23, 24, 25, 26, 27, 28, 29, 30, 31, 32, 33, 34, 35, 36, 37, 38, 39, 40, 41, 42, 43, 52, 53, 54] (by decide +kernel) (by decide +kernel)
set_option maxRecDepth 20000 in
theorem gX2_shareOf_X0_likenessOf : GoodIn wsX2_shareOf (wsV RX2 73 RX0 yX0_likenessOf wsX0_likenessOf) := goodIn_app (goodIn_of _ (by decide +kernel)) ggX2_shareOf_X0_likenessOf
theorem dX2_shareOf_0 : decode cX2_shareOf 0 = .ok (.aload_n 0, 1) := by decide +kernel
theorem dX2_shareOf_1 : decode cX2_shareOf 1 = .ok (.iload_n 2, 1) := by decide +kernel
theorem dX2_shareOf_2 : decode cX2_shareOf 2 = .ok (.invokevirtual 54, 3) := by decide +kernel
theorem dX2_shareOf_5 : decode cX2_shareOf 5 = .ok (.astore_n 3, 1) := by decide +kernel
theorem dX2_shareOf_6 : decode cX2_shareOf 6 = .ok (.aload_n 3, 1) := by decide +kernel
theorem dX2_shareOf_7 : decode cX2_shareOf 7 = .ok (.ifnonnull 6, 3) := by decide +kernel
theorem dX2_shareOf_10 : decode cX2_shareOf 10 = .ok (.bipush 100, 2) := by decide +kernel
theorem dX2_shareOf_12 : decode cX2_shareOf 12 = .ok (.ireturn, 1) := by decide +kernel
theorem dX2_shareOf_13 : decode cX2_shareOf 13 = .ok (.aload_n 0, 1) := by decide +kernel
theorem dX2_shareOf_14 : decode cX2_shareOf 14 = .ok (.getfield 31, 3) := by decide +kernel
theorem dX2_shareOf_17 : decode cX2_shareOf 17 = .ok (.aload_n 1, 1) := by decide +kernel
theorem dX2_shareOf_18 : decode cX2_shareOf 18 = .ok (.aload_n 3, 1) := by decide +kernel
theorem dX2_shareOf_19 : decode cX2_shareOf 19 = .ok (.getfield 39, 3) := by decide +kernel
theorem dX2_shareOf_22 : decode cX2_shareOf 22 = .ok (.invokevirtual 73, 3) := by decide +kernel
theorem dX2_shareOf_25 : decode cX2_shareOf 25 = .ok (.istore 4, 2) := by decide +kernel
theorem dX2_shareOf_27 : decode cX2_shareOf 27 = .ok (.iload 4, 2) := by decide +kernel
theorem dX2_shareOf_29 : decode cX2_shareOf 29 = .ok (.bipush 100, 2) := by decide +kernel
theorem dX2_shareOf_31 : decode cX2_shareOf 31 = .ok (.if_icmp .lt 6, 3) := by decide +kernel
theorem dX2_shareOf_34 : decode cX2_shareOf 34 = .ok (.bipush 20, 2) := by decide +kernel
theorem dX2_shareOf_36 : decode cX2_shareOf 36 = .ok (.ireturn, 1) := by decide +kernel
theorem dX2_shareOf_37 : decode cX2_shareOf 37 = .ok (.iload 4, 2) := by decide +kernel
theorem dX2_shareOf_39 : decode cX2_shareOf 39 = .ok (.bipush 85, 2) := by decide +kernel
theorem dX2_shareOf_41 : decode cX2_shareOf 41 = .ok (.if_icmp .lt 6, 3) := by decide +kernel
theorem dX2_shareOf_44 : decode cX2_shareOf 44 = .ok (.bipush 50, 2) := by decide +kernel
theorem dX2_shareOf_46 : decode cX2_shareOf 46 = .ok (.ireturn, 1) := by decide +kernel
theorem dX2_shareOf_47 : decode cX2_shareOf 47 = .ok (.iload 4, 2) := by decide +kernel
theorem dX2_shareOf_49 : decode cX2_shareOf 49 = .ok (.bipush 70, 2) := by decide +kernel
theorem dX2_shareOf_51 : decode cX2_shareOf 51 = .ok (.if_icmp .lt 8, 3) := by decide +kernel
theorem dX2_shareOf_54 : decode cX2_shareOf 54 = .ok (.bipush 70, 2) := by decide +kernel
theorem dX2_shareOf_56 : decode cX2_shareOf 56 = .ok (.goto 5, 3) := by decide +kernel
theorem dX2_shareOf_59 : decode cX2_shareOf 59 = .ok (.bipush 90, 2) := by decide +kernel
theorem dX2_shareOf_61 : decode cX2_shareOf 61 = .ok (.ireturn, 1) := by decide +kernel
set_option maxRecDepth 20000 in
theorem ggX2_lendTo_X2_sentenceAt : GoodIn wsX2_lendTo wsX2_sentenceAt := goodIn_r _ [6, 7, 50, 51, 52, 53, 54] (by decide +kernel) (by decide +kernel)
set_option maxRecDepth 20000 in
theorem gX2_lendTo_X2_sentenceAt : GoodIn wsX2_lendTo (wsV RX2 54 RX2 yX2_sentenceAt wsX2_sentenceAt) := goodIn_app (goodIn_of _ (by decide +kernel)) ggX2_lendTo_X2_sentenceAt
set_option maxRecDepth 20000 in
theorem ggX2_lendTo_X0_compare : GoodIn wsX2_lendTo wsX0_compare := goodIn_r _ [12, 13, 14, 15, 16, 17, 18, 19, 20, 21, 22, 11, 23, 24, 25, 26, 27, 28, 29, 30, 31, 32, 33, 34, 35, 36, 58, 59, 60] (by decide +kernel) (by decide +kernel)
set_option maxRecDepth 20000 in
theorem gX2_lendTo_X0_compare : GoodIn wsX2_lendTo (wsV RX2 80 RX0 yX0_compare wsX0_compare) := goodIn_app (goodIn_of _ (by decide +kernel)) ggX2_lendTo_X0_compare
set_option maxRecDepth 20000 in
theorem ggX2_lendTo_X4_at : GoodIn wsX2_lendTo wsX4_at := goodIn_r _ [17, 18, 19, 58, 59] (by decide +kernel) (by decide +kernel)
set_option maxRecDepth 20000 in
theorem gX2_lendTo_X4_at : GoodIn wsX2_lendTo (wsV RX2 48 RX4 yX4_at wsX4_at) := goodIn_app (goodIn_of _ (by decide +kernel)) ggX2_lendTo_X4_at
set_option maxRecDepth 20000 in
theorem ggX2_lendTo_X4_put : GoodIn wsX2_lendTo wsX4_put := goodIn_r _ [41, 19, 42, 43, 44, 16, 45, 18, 58, 59] (by decide +kernel) (by decide +kernel)
set_option maxRecDepth 20000 in
theorem gX2_lendTo_X4_put : GoodIn wsX2_lendTo (wsV RX2 87 RX4 yX4_put wsX4_put) := goodIn_app (goodIn_of _ (by decide +kernel)) ggX2_lendTo_X4_put
set_option maxRecDepth 20000 in
theorem ggX2_lendTo_X0_skipBehind : GoodIn wsX2_lendTo wsX0_skipBehind := goodIn_r _ [49, 28, 29, 30, 11, 31, 32, 60] (by decide +kernel) (by decide +kernel)
set_option maxRecDepth 20000 in
theorem gX2_lendTo_X0_skipBehind : GoodIn wsX2_lendTo (wsV RX2 91 RX0 yX0_skipBehind wsX0_skipBehind) := goodIn_app (goodIn_of _ (by decide +kernel)) ggX2_lendTo_X0_skipBehind
theorem dX2_lendTo_0 : decode cX2_lendTo 0 = .ok (.aload_n 0, 1) := by decide +kernel
theorem dX2_lendTo_1 : decode cX2_lendTo 1 = .ok (.iload_n 2, 1) := by decide +kernel
theorem dX2_lendTo_2 : decode cX2_lendTo 2 = .ok (.invokevirtual 54, 3) := by decide +kernel
theorem dX2_lendTo_5 : decode cX2_lendTo 5 = .ok (.astore_n 3, 1) := by decide +kernel
theorem dX2_lendTo_6 : decode cX2_lendTo 6 = .ok (.aload_n 3, 1) := by decide +kernel
theorem dX2_lendTo_7 : decode cX2_lendTo 7 = .ok (.ifnonnull 4, 3) := by decide +kernel
theorem dX2_lendTo_10 : decode cX2_lendTo 10 = .ok (.return_, 1) := by decide +kernel
theorem dX2_lendTo_11 : decode cX2_lendTo 11 = .ok (.aload_n 0, 1) := by decide +kernel
theorem dX2_lendTo_12 : decode cX2_lendTo 12 = .ok (.getfield 31, 3) := by decide +kernel
theorem dX2_lendTo_15 : decode cX2_lendTo 15 = .ok (.aload_n 1, 1) := by decide +kernel
theorem dX2_lendTo_16 : decode cX2_lendTo 16 = .ok (.getfield 39, 3) := by decide +kernel
theorem dX2_lendTo_19 : decode cX2_lendTo 19 = .ok (.aload_n 3, 1) := by decide +kernel
theorem dX2_lendTo_20 : decode cX2_lendTo 20 = .ok (.getfield 39, 3) := by decide +kernel
theorem dX2_lendTo_23 : decode cX2_lendTo 23 = .ok (.invokevirtual 80, 3) := by decide +kernel
theorem dX2_lendTo_26 : decode cX2_lendTo 26 = .ok (.aload_n 1, 1) := by decide +kernel
theorem dX2_lendTo_27 : decode cX2_lendTo 27 = .ok (.getfield 39, 3) := by decide +kernel
theorem dX2_lendTo_30 : decode cX2_lendTo 30 = .ok (.getfield 43, 3) := by decide +kernel
theorem dX2_lendTo_33 : decode cX2_lendTo 33 = .ok (.istore 4, 2) := by decide +kernel
theorem dX2_lendTo_35 : decode cX2_lendTo 35 = .ok (.aload_n 3, 1) := by decide +kernel
theorem dX2_lendTo_36 : decode cX2_lendTo 36 = .ok (.getfield 39, 3) := by decide +kernel
theorem dX2_lendTo_39 : decode cX2_lendTo 39 = .ok (.getfield 43, 3) := by decide +kernel
theorem dX2_lendTo_42 : decode cX2_lendTo 42 = .ok (.istore 5, 2) := by decide +kernel
theorem dX2_lendTo_44 : decode cX2_lendTo 44 = .ok (.iconst 0, 1) := by decide +kernel
theorem dX2_lendTo_45 : decode cX2_lendTo 45 = .ok (.istore 6, 2) := by decide +kernel
theorem dX2_lendTo_47 : decode cX2_lendTo 47 = .ok (.iload 6, 2) := by decide +kernel
theorem dX2_lendTo_49 : decode cX2_lendTo 49 = .ok (.bipush 16, 2) := by decide +kernel
theorem dX2_lendTo_51 : decode cX2_lendTo 51 = .ok (.if_icmp .ge 115, 3) := by decide +kernel
theorem dX2_lendTo_54 : decode cX2_lendTo 54 = .ok (.iload 4, 2) := by decide +kernel
theorem dX2_lendTo_56 : decode cX2_lendTo 56 = .ok (.ifCond .le 110, 3) := by decide +kernel
theorem dX2_lendTo_59 : decode cX2_lendTo 59 = .ok (.iload 5, 2) := by decide +kernel
theorem dX2_lendTo_61 : decode cX2_lendTo 61 = .ok (.ifCond .le 105, 3) := by decide +kernel
theorem dX2_lendTo_64 : decode cX2_lendTo 64 = .ok (.aload_n 1, 1) := by decide +kernel
theorem dX2_lendTo_65 : decode cX2_lendTo 65 = .ok (.getfield 39, 3) := by decide +kernel
theorem dX2_lendTo_68 : decode cX2_lendTo 68 = .ok (.iload 4, 2) := by decide +kernel
theorem dX2_lendTo_70 : decode cX2_lendTo 70 = .ok (.iconst 1, 1) := by decide +kernel
theorem dX2_lendTo_71 : decode cX2_lendTo 71 = .ok (.isub, 1) := by decide +kernel
theorem dX2_lendTo_72 : decode cX2_lendTo 72 = .ok (.invokevirtual 48, 3) := by decide +kernel
theorem dX2_lendTo_75 : decode cX2_lendTo 75 = .ok (.aload_n 3, 1) := by decide +kernel
theorem dX2_lendTo_76 : decode cX2_lendTo 76 = .ok (.getfield 39, 3) := by decide +kernel
theorem dX2_lendTo_79 : decode cX2_lendTo 79 = .ok (.iload 5, 2) := by decide +kernel
theorem dX2_lendTo_81 : decode cX2_lendTo 81 = .ok (.iconst 1, 1) := by decide +kernel
theorem dX2_lendTo_82 : decode cX2_lendTo 82 = .ok (.isub, 1) := by decide +kernel
theorem dX2_lendTo_83 : decode cX2_lendTo 83 = .ok (.invokevirtual 48, 3) := by decide +kernel
theorem dX2_lendTo_86 : decode cX2_lendTo 86 = .ok (.if_icmp .ne 30, 3) := by decide +kernel
theorem dX2_lendTo_89 : decode cX2_lendTo 89 = .ok (.iinc 4 (-1), 3) := by decide +kernel
theorem dX2_lendTo_92 : decode cX2_lendTo 92 = .ok (.iinc 5 (-1), 3) := by decide +kernel
theorem dX2_lendTo_95 : decode cX2_lendTo 95 = .ok (.aload_n 1, 1) := by decide +kernel
theorem dX2_lendTo_96 : decode cX2_lendTo 96 = .ok (.getfield 84, 3) := by decide +kernel
theorem dX2_lendTo_99 : decode cX2_lendTo 99 = .ok (.iload 4, 2) := by decide +kernel
theorem dX2_lendTo_101 : decode cX2_lendTo 101 = .ok (.aload_n 3, 1) := by decide +kernel
theorem dX2_lendTo_102 : decode cX2_lendTo 102 = .ok (.getfield 84, 3) := by decide +kernel
theorem dX2_lendTo_105 : decode cX2_lendTo 105 = .ok (.iload 5, 2) := by decide +kernel
theorem dX2_lendTo_107 : decode cX2_lendTo 107 = .ok (.invokevirtual 48, 3) := by decide +kernel
theorem dX2_lendTo_110 : decode cX2_lendTo 110 = .ok (.invokevirtual 87, 3) := by decide +kernel
theorem dX2_lendTo_113 : decode cX2_lendTo 113 = .ok (.goto 47, 3) := by decide +kernel
theorem dX2_lendTo_116 : decode cX2_lendTo 116 = .ok (.aload_n 0, 1) := by decide +kernel
theorem dX2_lendTo_117 : decode cX2_lendTo 117 = .ok (.getfield 31, 3) := by decide +kernel
theorem dX2_lendTo_120 : decode cX2_lendTo 120 = .ok (.iload 4, 2) := by decide +kernel
theorem dX2_lendTo_122 : decode cX2_lendTo 122 = .ok (.iload 5, 2) := by decide +kernel
theorem dX2_lendTo_124 : decode cX2_lendTo 124 = .ok (.invokevirtual 91, 3) := by decide +kernel
theorem dX2_lendTo_127 : decode cX2_lendTo 127 = .ok (.istore 7, 2) := by decide +kernel
theorem dX2_lendTo_129 : decode cX2_lendTo 129 = .ok (.iload 4, 2) := by decide +kernel
theorem dX2_lendTo_131 : decode cX2_lendTo 131 = .ok (.iload 7, 2) := by decide +kernel
theorem dX2_lendTo_133 : decode cX2_lendTo 133 = .ok (.iconst 1, 1) := by decide +kernel
theorem dX2_lendTo_134 : decode cX2_lendTo 134 = .ok (.if_icmp .ne 7, 3) := by decide +kernel
theorem dX2_lendTo_137 : decode cX2_lendTo 137 = .ok (.iconst 0, 1) := by decide +kernel
theorem dX2_lendTo_138 : decode cX2_lendTo 138 = .ok (.goto 4, 3) := by decide +kernel
theorem dX2_lendTo_141 : decode cX2_lendTo 141 = .ok (.iconst 1, 1) := by decide +kernel
theorem dX2_lendTo_142 : decode cX2_lendTo 142 = .ok (.isub, 1) := by decide +kernel
theorem dX2_lendTo_143 : decode cX2_lendTo 143 = .ok (.istore 4, 2) := by decide +kernel
theorem dX2_lendTo_145 : decode cX2_lendTo 145 = .ok (.iload 5, 2) := by decide +kernel
theorem dX2_lendTo_147 : decode cX2_lendTo 147 = .ok (.iload 7, 2) := by decide +kernel
theorem dX2_lendTo_149 : decode cX2_lendTo 149 = .ok (.ifCond .ne 7, 3) := by decide +kernel
theorem dX2_lendTo_152 : decode cX2_lendTo 152 = .ok (.iconst 0, 1) := by decide +kernel
theorem dX2_lendTo_153 : decode cX2_lendTo 153 = .ok (.goto 4, 3) := by decide +kernel
theorem dX2_lendTo_156 : decode cX2_lendTo 156 = .ok (.iconst 1, 1) := by decide +kernel
theorem dX2_lendTo_157 : decode cX2_lendTo 157 = .ok (.isub, 1) := by decide +kernel
theorem dX2_lendTo_158 : decode cX2_lendTo 158 = .ok (.istore 5, 2) := by decide +kernel
theorem dX2_lendTo_160 : decode cX2_lendTo 160 = .ok (.iinc 6 1, 3) := by decide +kernel
theorem dX2_lendTo_163 : decode cX2_lendTo 163 = .ok (.goto (-116), 3) := by decide +kernel
theorem dX2_lendTo_166 : decode cX2_lendTo 166 = .ok (.return_, 1) := by decide +kernel
theorem dX3_init_0 : decode cX3_init 0 = .ok (.aload_n 0, 1) := by decide +kernel
theorem dX3_init_1 : decode cX3_init 1 = .ok (.invokespecial 3, 3) := by decide +kernel
theorem dX3_init_4 : decode cX3_init 4 = .ok (.aload_n 0, 1) := by decide +kernel
theorem dX3_init_5 : decode cX3_init 5 = .ok (.iconst (-1), 1) := by decide +kernel
theorem dX3_init_6 : decode cX3_init 6 = .ok (.putfield 9, 3) := by decide +kernel
theorem dX3_init_9 : decode cX3_init 9 = .ok (.aload_n 0, 1) := by decide +kernel
theorem dX3_init_10 : decode cX3_init 10 = .ok (.iconst (-1), 1) := by decide +kernel
theorem dX3_init_11 : decode cX3_init 11 = .ok (.putfield 15, 3) := by decide +kernel
theorem dX3_init_14 : decode cX3_init 14 = .ok (.aload_n 0, 1) := by decide +kernel
theorem dX3_init_15 : decode cX3_init 15 = .ok (.iconst 0, 1) := by decide +kernel
theorem dX3_init_16 : decode cX3_init 16 = .ok (.putfield 18, 3) := by decide +kernel
theorem dX3_init_19 : decode cX3_init 19 = .ok (.aload_n 0, 1) := by decide +kernel
theorem dX3_init_20 : decode cX3_init 20 = .ok (.iconst 0, 1) := by decide +kernel
theorem dX3_init_21 : decode cX3_init 21 = .ok (.putfield 21, 3) := by decide +kernel
theorem dX3_init_24 : decode cX3_init 24 = .ok (.aload_n 0, 1) := by decide +kernel
theorem dX3_init_25 : decode cX3_init 25 = .ok (.iload_n 1, 1) := by decide +kernel
theorem dX3_init_26 : decode cX3_init 26 = .ok (.putfield 24, 3) := by decide +kernel
theorem dX3_init_29 : decode cX3_init 29 = .ok (.aload_n 0, 1) := by decide +kernel
theorem dX3_init_30 : decode cX3_init 30 = .ok (.iload_n 2, 1) := by decide +kernel
theorem dX3_init_31 : decode cX3_init 31 = .ok (.putfield 27, 3) := by decide +kernel
theorem dX3_init_34 : decode cX3_init 34 = .ok (.aload_n 0, 1) := by decide +kernel
theorem dX3_init_35 : decode cX3_init 35 = .ok (.aload_n 3, 1) := by decide +kernel
theorem dX3_init_36 : decode cX3_init 36 = .ok (.putfield 31, 3) := by decide +kernel
theorem dX3_init_39 : decode cX3_init 39 = .ok (.return_, 1) := by decide +kernel
set_option maxRecDepth 20000 in
theorem ggX3_whyNot_X6_firstOpen : GoodIn wsX3_whyNot wsX6_firstOpen := goodIn_r _ [6, 7, 8, 9, 10, 11, 12, 13, 14, 47, 48, 49, 50, 51] (by decide +kernel) (by decide +kernel)
set_option maxRecDepth 20000 in
theorem gX3_whyNot_X6_firstOpen : GoodIn wsX3_whyNot (wsV RX3 35 RX6 yX6_firstOpen wsX6_firstOpen) := goodIn_app (goodIn_of _ (by decide +kernel)) ggX3_whyNot_X6_firstOpen
set_option maxRecDepth 20000 in
theorem ggX3_whyNot_X3_firstBroken : GoodIn wsX3_whyNot wsX3_firstBroken := goodIn_r _ [19, 20, 1, 21, 22, 23, 5, 24, 25, 26, 27, 28, 29, 30, 7, 8, 9, 10, 11, 12, 13, 14, 31, 32, 33, 34, 35, 36, 37, 38, 39, 40, 41, 42, 43, 44, 45, 46, 47, 48, 49, 50, 51, 52, 53, 54] (by decide +kernel) (by decide +kernel)
set_option maxRecDepth 20000 in
theorem gX3_whyNot_X3_firstBroken : GoodIn wsX3_whyNot (wsV RX3 41 RX3 yX3_firstBroken wsX3_firstBroken) := goodIn_app (goodIn_of _ (by decide +kernel)) ggX3_whyNot_X3_firstBroken
theorem dX3_whyNot_0 : decode cX3_whyNot 0 = .ok (.aload_n 0, 1) := by decide +kernel
theorem dX3_whyNot_1 : decode cX3_whyNot 1 = .ok (.getfield 31, 3) := by decide +kernel
theorem dX3_whyNot_4 : decode cX3_whyNot 4 = .ok (.invokevirtual 35, 3) := by decide +kernel
theorem dX3_whyNot_7 : decode cX3_whyNot 7 = .ok (.iconst (-1), 1) := by decide +kernel
theorem dX3_whyNot_8 : decode cX3_whyNot 8 = .ok (.if_icmp .eq 5, 3) := by decide +kernel
theorem dX3_whyNot_11 : decode cX3_whyNot 11 = .ok (.iconst 1, 1) := by decide +kernel
theorem dX3_whyNot_12 : decode cX3_whyNot 12 = .ok (.ireturn, 1) := by decide +kernel
theorem dX3_whyNot_13 : decode cX3_whyNot 13 = .ok (.aload_n 0, 1) := by decide +kernel
theorem dX3_whyNot_14 : decode cX3_whyNot 14 = .ok (.aload_n 1, 1) := by decide +kernel
theorem dX3_whyNot_15 : decode cX3_whyNot 15 = .ok (.invokevirtual 41, 3) := by decide +kernel
theorem dX3_whyNot_18 : decode cX3_whyNot 18 = .ok (.iconst (-1), 1) := by decide +kernel
theorem dX3_whyNot_19 : decode cX3_whyNot 19 = .ok (.if_icmp .eq 7, 3) := by decide +kernel
theorem dX3_whyNot_22 : decode cX3_whyNot 22 = .ok (.iconst 2, 1) := by decide +kernel
theorem dX3_whyNot_23 : decode cX3_whyNot 23 = .ok (.goto 4, 3) := by decide +kernel
theorem dX3_whyNot_26 : decode cX3_whyNot 26 = .ok (.iconst 0, 1) := by decide +kernel
theorem dX3_whyNot_27 : decode cX3_whyNot 27 = .ok (.ireturn, 1) := by decide +kernel
set_option maxRecDepth 20000 in
theorem ggX3_whereNot_X6_firstOpen : GoodIn wsX3_whereNot wsX6_firstOpen := goodIn_r _ [6, 7, 8, 9, 10, 11, 12, 13, 14, 47, 48, 49, 50, 51] (by decide +kernel) (by decide +kernel)
set_option maxRecDepth 20000 in
theorem gX3_whereNot_X6_firstOpen : GoodIn wsX3_whereNot (wsV RX3 35 RX6 yX6_firstOpen wsX6_firstOpen) := goodIn_app (goodIn_of _ (by decide +kernel)) ggX3_whereNot_X6_firstOpen
set_option maxRecDepth 20000 in
theorem ggX3_whereNot_X3_firstBroken : GoodIn wsX3_whereNot wsX3_firstBroken := goodIn_r _ [19, 20, 1, 21, 22, 23, 5, 24, 25, 26, 27, 28, 29, 30, 7, 8, 9, 10, 11, 12, 13, 14, 31, 32, 33, 34, 35, 36, 37, 38, 39, 40, 41, 42, 43, 44, 45, 46, 47, 48, 49, 50, 51, 52, 53, 54] (by decide +kernel) (by decide +kernel)
set_option maxRecDepth 20000 in
theorem gX3_whereNot_X3_firstBroken : GoodIn wsX3_whereNot (wsV RX3 41 RX3 yX3_firstBroken wsX3_firstBroken) := goodIn_app (goodIn_of _ (by decide +kernel)) ggX3_whereNot_X3_firstBroken
theorem dX3_whereNot_0 : decode cX3_whereNot 0 = .ok (.aload_n 0, 1) := by decide +kernel
theorem dX3_whereNot_1 : decode cX3_whereNot 1 = .ok (.getfield 31, 3) := by decide +kernel
theorem dX3_whereNot_4 : decode cX3_whereNot 4 = .ok (.invokevirtual 35, 3) := by decide +kernel
theorem dX3_whereNot_7 : decode cX3_whereNot 7 = .ok (.istore_n 2, 1) := by decide +kernel
theorem dX3_whereNot_8 : decode cX3_whereNot 8 = .ok (.iload_n 2, 1) := by decide +kernel
theorem dX3_whereNot_9 : decode cX3_whereNot 9 = .ok (.iconst (-1), 1) := by decide +kernel
theorem dX3_whereNot_10 : decode cX3_whereNot 10 = .ok (.if_icmp .eq 7, 3) := by decide +kernel
theorem dX3_whereNot_13 : decode cX3_whereNot 13 = .ok (.iload_n 2, 1) := by decide +kernel
theorem dX3_whereNot_14 : decode cX3_whereNot 14 = .ok (.goto 8, 3) := by decide +kernel
theorem dX3_whereNot_17 : decode cX3_whereNot 17 = .ok (.aload_n 0, 1) := by decide +kernel
theorem dX3_whereNot_18 : decode cX3_whereNot 18 = .ok (.aload_n 1, 1) := by decide +kernel
theorem dX3_whereNot_19 : decode cX3_whereNot 19 = .ok (.invokevirtual 41, 3) := by decide +kernel
theorem dX3_whereNot_22 : decode cX3_whereNot 22 = .ok (.ireturn, 1) := by decide +kernel
set_option maxRecDepth 20000 in
theorem ggX3_firstBroken_X6_firstAstray : GoodIn wsX3_firstBroken wsX6_firstAstray := goodIn_r _ [7, 8, 9, 10, 11, 6, 12, 13, 14, 15, 16, 17, 18, 19, 20, 21, 22, 23, 24, 25, 26, 27, 28, 29, 30, 38, 39, 40, 41, 42, 43, 44, 45] (by decide +kernel) (by decide +kernel)
set_option maxRecDepth 20000 in
theorem gX3_firstBroken_X6_firstAstray : GoodIn wsX3_firstBroken (wsV RX3 45 RX6 yX6_firstAstray wsX6_firstAstray) := goodIn_app (goodIn_of _ (by decide +kernel)) ggX3_firstBroken_X6_firstAstray
theorem dX3_firstBroken_0 : decode cX3_firstBroken 0 = .ok (.aload_n 0, 1) := by decide +kernel
theorem dX3_firstBroken_1 : decode cX3_firstBroken 1 = .ok (.getfield 27, 3) := by decide +kernel
theorem dX3_firstBroken_4 : decode cX3_firstBroken 4 = .ok (.ifCond .eq 7, 3) := by decide +kernel
theorem dX3_firstBroken_7 : decode cX3_firstBroken 7 = .ok (.iconst (-1), 1) := by decide +kernel
theorem dX3_firstBroken_8 : decode cX3_firstBroken 8 = .ok (.goto 11, 3) := by decide +kernel
theorem dX3_firstBroken_11 : decode cX3_firstBroken 11 = .ok (.aload_n 0, 1) := by decide +kernel
theorem dX3_firstBroken_12 : decode cX3_firstBroken 12 = .ok (.getfield 31, 3) := by decide +kernel
theorem dX3_firstBroken_15 : decode cX3_firstBroken 15 = .ok (.aload_n 1, 1) := by decide +kernel
theorem dX3_firstBroken_16 : decode cX3_firstBroken 16 = .ok (.invokevirtual 45, 3) := by decide +kernel
theorem dX3_firstBroken_19 : decode cX3_firstBroken 19 = .ok (.ireturn, 1) := by decide +kernel
theorem dX4_init_0 : decode cX4_init 0 = .ok (.aload_n 0, 1) := by decide +kernel
theorem dX4_init_1 : decode cX4_init 1 = .ok (.invokespecial 3, 3) := by decide +kernel
theorem dX4_init_4 : decode cX4_init 4 = .ok (.aload_n 0, 1) := by decide +kernel
theorem dX4_init_5 : decode cX4_init 5 = .ok (.bipush 8, 2) := by decide +kernel
theorem dX4_init_7 : decode cX4_init 7 = .ok (.newarray .int, 2) := by decide +kernel
theorem dX4_init_9 : decode cX4_init 9 = .ok (.putfield 9, 3) := by decide +kernel
theorem dX4_init_12 : decode cX4_init 12 = .ok (.aload_n 0, 1) := by decide +kernel
theorem dX4_init_13 : decode cX4_init 13 = .ok (.iconst 0, 1) := by decide +kernel
theorem dX4_init_14 : decode cX4_init 14 = .ok (.putfield 15, 3) := by decide +kernel
theorem dX4_init_17 : decode cX4_init 17 = .ok (.return_, 1) := by decide +kernel
theorem dX4_has_0 : decode cX4_has 0 = .ok (.iload_n 1, 1) := by decide +kernel
theorem dX4_has_1 : decode cX4_has 1 = .ok (.ifCond .lt 24, 3) := by decide +kernel
theorem dX4_has_4 : decode cX4_has 4 = .ok (.iload_n 1, 1) := by decide +kernel
theorem dX4_has_5 : decode cX4_has 5 = .ok (.aload_n 0, 1) := by decide +kernel
theorem dX4_has_6 : decode cX4_has 6 = .ok (.getfield 15, 3) := by decide +kernel
theorem dX4_has_9 : decode cX4_has 9 = .ok (.if_icmp .ge 16, 3) := by decide +kernel
theorem dX4_has_12 : decode cX4_has 12 = .ok (.iload_n 1, 1) := by decide +kernel
theorem dX4_has_13 : decode cX4_has 13 = .ok (.aload_n 0, 1) := by decide +kernel
theorem dX4_has_14 : decode cX4_has 14 = .ok (.getfield 9, 3) := by decide +kernel
theorem dX4_has_17 : decode cX4_has 17 = .ok (.arraylength, 1) := by decide +kernel
theorem dX4_has_18 : decode cX4_has 18 = .ok (.if_icmp .ge 7, 3) := by decide +kernel
theorem dX4_has_21 : decode cX4_has 21 = .ok (.iconst 1, 1) := by decide +kernel
theorem dX4_has_22 : decode cX4_has 22 = .ok (.goto 4, 3) := by decide +kernel
theorem dX4_has_25 : decode cX4_has 25 = .ok (.iconst 0, 1) := by decide +kernel
theorem dX4_has_26 : decode cX4_has 26 = .ok (.ireturn, 1) := by decide +kernel
theorem dX4_at_0 : decode cX4_at 0 = .ok (.iload_n 1, 1) := by decide +kernel
theorem dX4_at_1 : decode cX4_at 1 = .ok (.ifCond .lt 29, 3) := by decide +kernel
theorem dX4_at_4 : decode cX4_at 4 = .ok (.iload_n 1, 1) := by decide +kernel
theorem dX4_at_5 : decode cX4_at 5 = .ok (.aload_n 0, 1) := by decide +kernel
theorem dX4_at_6 : decode cX4_at 6 = .ok (.getfield 15, 3) := by decide +kernel
theorem dX4_at_9 : decode cX4_at 9 = .ok (.if_icmp .ge 21, 3) := by decide +kernel
theorem dX4_at_12 : decode cX4_at 12 = .ok (.iload_n 1, 1) := by decide +kernel
theorem dX4_at_13 : decode cX4_at 13 = .ok (.aload_n 0, 1) := by decide +kernel
theorem dX4_at_14 : decode cX4_at 14 = .ok (.getfield 9, 3) := by decide +kernel
theorem dX4_at_17 : decode cX4_at 17 = .ok (.arraylength, 1) := by decide +kernel
theorem dX4_at_18 : decode cX4_at 18 = .ok (.if_icmp .ge 12, 3) := by decide +kernel
theorem dX4_at_21 : decode cX4_at 21 = .ok (.aload_n 0, 1) := by decide +kernel
theorem dX4_at_22 : decode cX4_at 22 = .ok (.getfield 9, 3) := by decide +kernel
theorem dX4_at_25 : decode cX4_at 25 = .ok (.iload_n 1, 1) := by decide +kernel
theorem dX4_at_26 : decode cX4_at 26 = .ok (.iaload, 1) := by decide +kernel
theorem dX4_at_27 : decode cX4_at 27 = .ok (.goto 4, 3) := by decide +kernel
theorem dX4_at_30 : decode cX4_at 30 = .ok (.iconst (-1), 1) := by decide +kernel
theorem dX4_at_31 : decode cX4_at 31 = .ok (.ireturn, 1) := by decide +kernel
set_option maxRecDepth 20000 in
theorem ggX4_put_X4_has : GoodIn wsX4_put wsX4_has := goodIn_r _ [6, 7, 1, 8, 9] (by decide +kernel) (by decide +kernel)
set_option maxRecDepth 20000 in
theorem gX4_put_X4_has : GoodIn wsX4_put (wsV RX4 19 RX4 yX4_has wsX4_has) := goodIn_app (goodIn_of _ (by decide +kernel)) ggX4_put_X4_has
theorem dX4_put_0 : decode cX4_put 0 = .ok (.aload_n 0, 1) := by decide +kernel
theorem dX4_put_1 : decode cX4_put 1 = .ok (.iload_n 1, 1) := by decide +kernel
theorem dX4_put_2 : decode cX4_put 2 = .ok (.invokevirtual 19, 3) := by decide +kernel
theorem dX4_put_5 : decode cX4_put 5 = .ok (.ifCond .eq 10, 3) := by decide +kernel
theorem dX4_put_8 : decode cX4_put 8 = .ok (.aload_n 0, 1) := by decide +kernel
theorem dX4_put_9 : decode cX4_put 9 = .ok (.getfield 9, 3) := by decide +kernel
theorem dX4_put_12 : decode cX4_put 12 = .ok (.iload_n 1, 1) := by decide +kernel
theorem dX4_put_13 : decode cX4_put 13 = .ok (.iload_n 2, 1) := by decide +kernel
theorem dX4_put_14 : decode cX4_put 14 = .ok (.iastore, 1) := by decide +kernel
theorem dX4_put_15 : decode cX4_put 15 = .ok (.return_, 1) := by decide +kernel
theorem dX4_append_0 : decode cX4_append 0 = .ok (.aload_n 0, 1) := by decide +kernel
theorem dX4_append_1 : decode cX4_append 1 = .ok (.getfield 15, 3) := by decide +kernel
theorem dX4_append_4 : decode cX4_append 4 = .ok (.istore_n 2, 1) := by decide +kernel
theorem dX4_append_5 : decode cX4_append 5 = .ok (.iload_n 2, 1) := by decide +kernel
theorem dX4_append_6 : decode cX4_append 6 = .ok (.ifCond .lt 26, 3) := by decide +kernel
theorem dX4_append_9 : decode cX4_append 9 = .ok (.iload_n 2, 1) := by decide +kernel
theorem dX4_append_10 : decode cX4_append 10 = .ok (.aload_n 0, 1) := by decide +kernel
theorem dX4_append_11 : decode cX4_append 11 = .ok (.getfield 9, 3) := by decide +kernel
theorem dX4_append_14 : decode cX4_append 14 = .ok (.arraylength, 1) := by decide +kernel
theorem dX4_append_15 : decode cX4_append 15 = .ok (.if_icmp .ge 17, 3) := by decide +kernel
theorem dX4_append_18 : decode cX4_append 18 = .ok (.aload_n 0, 1) := by decide +kernel
theorem dX4_append_19 : decode cX4_append 19 = .ok (.getfield 9, 3) := by decide +kernel
theorem dX4_append_22 : decode cX4_append 22 = .ok (.iload_n 2, 1) := by decide +kernel
theorem dX4_append_23 : decode cX4_append 23 = .ok (.iload_n 1, 1) := by decide +kernel
theorem dX4_append_24 : decode cX4_append 24 = .ok (.iastore, 1) := by decide +kernel
theorem dX4_append_25 : decode cX4_append 25 = .ok (.aload_n 0, 1) := by decide +kernel
theorem dX4_append_26 : decode cX4_append 26 = .ok (.iload_n 2, 1) := by decide +kernel
theorem dX4_append_27 : decode cX4_append 27 = .ok (.iconst 1, 1) := by decide +kernel
theorem dX4_append_28 : decode cX4_append 28 = .ok (.iadd, 1) := by decide +kernel
theorem dX4_append_29 : decode cX4_append 29 = .ok (.putfield 15, 3) := by decide +kernel
theorem dX4_append_32 : decode cX4_append 32 = .ok (.return_, 1) := by decide +kernel
set_option maxRecDepth 20000 in
theorem ggX5_init_J7_fill_53178 : GoodIn wsX5_init wsJ7_fill_53178 := goodIn_r _ [11] (by decide +kernel) (by decide +kernel)
set_option maxRecDepth 20000 in
theorem gX5_init_J7_fill_53178 : GoodIn wsX5_init (va_wsS RX5 21 yJ7_fill_53178 wsJ7_fill_53178) := goodIn_app (goodIn_of _ (by decide +kernel)) ggX5_init_J7_fill_53178
theorem dX5_init_0 : decode cX5_init 0 = .ok (.aload_n 0, 1) := by decide +kernel
theorem dX5_init_1 : decode cX5_init 1 = .ok (.invokespecial 3, 3) := by decide +kernel
theorem dX5_init_4 : decode cX5_init 4 = .ok (.aload_n 0, 1) := by decide +kernel
theorem dX5_init_5 : decode cX5_init 5 = .ok (.sipush 600, 3) := by decide +kernel
theorem dX5_init_8 : decode cX5_init 8 = .ok (.newarray .int, 2) := by decide +kernel
theorem dX5_init_10 : decode cX5_init 10 = .ok (.putfield 9, 3) := by decide +kernel
theorem dX5_init_13 : decode cX5_init 13 = .ok (.aload_n 0, 1) := by decide +kernel
theorem dX5_init_14 : decode cX5_init 14 = .ok (.sipush 200, 3) := by decide +kernel
theorem dX5_init_17 : decode cX5_init 17 = .ok (.newarray .int, 2) := by decide +kernel
theorem dX5_init_19 : decode cX5_init 19 = .ok (.putfield 15, 3) := by decide +kernel
theorem dX5_init_22 : decode cX5_init 22 = .ok (.aload_n 0, 1) := by decide +kernel
theorem dX5_init_23 : decode cX5_init 23 = .ok (.sipush 200, 3) := by decide +kernel
theorem dX5_init_26 : decode cX5_init 26 = .ok (.newarray .int, 2) := by decide +kernel
theorem dX5_init_28 : decode cX5_init 28 = .ok (.putfield 18, 3) := by decide +kernel
theorem dX5_init_31 : decode cX5_init 31 = .ok (.aload_n 0, 1) := by decide +kernel
theorem dX5_init_32 : decode cX5_init 32 = .ok (.getfield 9, 3) := by decide +kernel
theorem dX5_init_35 : decode cX5_init 35 = .ok (.iconst (-1), 1) := by decide +kernel
theorem dX5_init_36 : decode cX5_init 36 = .ok (.invokestatic 21, 3) := by decide +kernel
theorem dX5_init_39 : decode cX5_init 39 = .ok (.aload_n 0, 1) := by decide +kernel
theorem dX5_init_40 : decode cX5_init 40 = .ok (.getfield 15, 3) := by decide +kernel
theorem dX5_init_43 : decode cX5_init 43 = .ok (.iconst (-1), 1) := by decide +kernel
theorem dX5_init_44 : decode cX5_init 44 = .ok (.invokestatic 21, 3) := by decide +kernel
theorem dX5_init_47 : decode cX5_init 47 = .ok (.return_, 1) := by decide +kernel
theorem dX5_slotOf_0 : decode cX5_slotOf 0 = .ok (.iload_n 0, 1) := by decide +kernel
theorem dX5_slotOf_1 : decode cX5_slotOf 1 = .ok (.ifCond .lt 22, 3) := by decide +kernel
theorem dX5_slotOf_4 : decode cX5_slotOf 4 = .ok (.iload_n 0, 1) := by decide +kernel
theorem dX5_slotOf_5 : decode cX5_slotOf 5 = .ok (.iconst 4, 1) := by decide +kernel
theorem dX5_slotOf_6 : decode cX5_slotOf 6 = .ok (.if_icmp .ge 17, 3) := by decide +kernel
theorem dX5_slotOf_9 : decode cX5_slotOf 9 = .ok (.iload_n 1, 1) := by decide +kernel
theorem dX5_slotOf_10 : decode cX5_slotOf 10 = .ok (.ifCond .lt 13, 3) := by decide +kernel
theorem dX5_slotOf_13 : decode cX5_slotOf 13 = .ok (.iload_n 1, 1) := by decide +kernel
theorem dX5_slotOf_14 : decode cX5_slotOf 14 = .ok (.bipush 50, 2) := by decide +kernel
theorem dX5_slotOf_16 : decode cX5_slotOf 16 = .ok (.if_icmp .ge 7, 3) := by decide +kernel
theorem dX5_slotOf_19 : decode cX5_slotOf 19 = .ok (.iconst 1, 1) := by decide +kernel
theorem dX5_slotOf_20 : decode cX5_slotOf 20 = .ok (.goto 4, 3) := by decide +kernel
theorem dX5_slotOf_23 : decode cX5_slotOf 23 = .ok (.iconst 0, 1) := by decide +kernel
theorem dX5_slotOf_24 : decode cX5_slotOf 24 = .ok (.istore_n 2, 1) := by decide +kernel
theorem dX5_slotOf_25 : decode cX5_slotOf 25 = .ok (.iload_n 2, 1) := by decide +kernel
theorem dX5_slotOf_26 : decode cX5_slotOf 26 = .ok (.ifCond .eq 12, 3) := by decide +kernel
theorem dX5_slotOf_29 : decode cX5_slotOf 29 = .ok (.iload_n 0, 1) := by decide +kernel
theorem dX5_slotOf_30 : decode cX5_slotOf 30 = .ok (.bipush 50, 2) := by decide +kernel
theorem dX5_slotOf_32 : decode cX5_slotOf 32 = .ok (.imul, 1) := by decide +kernel
theorem dX5_slotOf_33 : decode cX5_slotOf 33 = .ok (.iload_n 1, 1) := by decide +kernel
theorem dX5_slotOf_34 : decode cX5_slotOf 34 = .ok (.iadd, 1) := by decide +kernel
theorem dX5_slotOf_35 : decode cX5_slotOf 35 = .ok (.goto 4, 3) := by decide +kernel
theorem dX5_slotOf_38 : decode cX5_slotOf 38 = .ok (.iconst (-1), 1) := by decide +kernel
theorem dX5_slotOf_39 : decode cX5_slotOf 39 = .ok (.ireturn, 1) := by decide +kernel
set_option maxRecDepth 20000 in
theorem ggX5_rulingOf_X5_slotOf : GoodIn wsX5_rulingOf wsX5_slotOf := goodIn_r _ [5] (by decide +kernel) (by decide +kernel)
set_option maxRecDepth 20000 in
theorem gX5_rulingOf_X5_slotOf : GoodIn wsX5_rulingOf (va_wsS RX5 27 yX5_slotOf wsX5_slotOf) := goodIn_app (goodIn_of _ (by decide +kernel)) ggX5_rulingOf_X5_slotOf
theorem dX5_rulingOf_0 : decode cX5_rulingOf 0 = .ok (.iload_n 1, 1) := by decide +kernel
theorem dX5_rulingOf_1 : decode cX5_rulingOf 1 = .ok (.iload_n 2, 1) := by decide +kernel
theorem dX5_rulingOf_2 : decode cX5_rulingOf 2 = .ok (.invokestatic 27, 3) := by decide +kernel
theorem dX5_rulingOf_5 : decode cX5_rulingOf 5 = .ok (.istore_n 3, 1) := by decide +kernel
theorem dX5_rulingOf_6 : decode cX5_rulingOf 6 = .ok (.iload_n 3, 1) := by decide +kernel
theorem dX5_rulingOf_7 : decode cX5_rulingOf 7 = .ok (.ifCond .lt 21, 3) := by decide +kernel
theorem dX5_rulingOf_10 : decode cX5_rulingOf 10 = .ok (.iload_n 3, 1) := by decide +kernel
theorem dX5_rulingOf_11 : decode cX5_rulingOf 11 = .ok (.aload_n 0, 1) := by decide +kernel
theorem dX5_rulingOf_12 : decode cX5_rulingOf 12 = .ok (.getfield 15, 3) := by decide +kernel
theorem dX5_rulingOf_15 : decode cX5_rulingOf 15 = .ok (.arraylength, 1) := by decide +kernel
theorem dX5_rulingOf_16 : decode cX5_rulingOf 16 = .ok (.if_icmp .ge 12, 3) := by decide +kernel
theorem dX5_rulingOf_19 : decode cX5_rulingOf 19 = .ok (.aload_n 0, 1) := by decide +kernel
theorem dX5_rulingOf_20 : decode cX5_rulingOf 20 = .ok (.getfield 15, 3) := by decide +kernel
theorem dX5_rulingOf_23 : decode cX5_rulingOf 23 = .ok (.iload_n 3, 1) := by decide +kernel
theorem dX5_rulingOf_24 : decode cX5_rulingOf 24 = .ok (.iaload, 1) := by decide +kernel
theorem dX5_rulingOf_25 : decode cX5_rulingOf 25 = .ok (.goto 4, 3) := by decide +kernel
theorem dX5_rulingOf_28 : decode cX5_rulingOf 28 = .ok (.iconst (-1), 1) := by decide +kernel
theorem dX5_rulingOf_29 : decode cX5_rulingOf 29 = .ok (.ireturn, 1) := by decide +kernel
set_option maxRecDepth 20000 in
theorem ggX5_soldAtChange_X5_slotOf : GoodIn wsX5_soldAtChange wsX5_slotOf := goodIn_r _ [5] (by decide +kernel) (by decide +kernel)
set_option maxRecDepth 20000 in
theorem gX5_soldAtChange_X5_slotOf : GoodIn wsX5_soldAtChange (va_wsS RX5 27 yX5_slotOf wsX5_slotOf) := goodIn_app (goodIn_of _ (by decide +kernel)) ggX5_soldAtChange_X5_slotOf
theorem dX5_soldAtChange_0 : decode cX5_soldAtChange 0 = .ok (.iload_n 1, 1) := by decide +kernel
theorem dX5_soldAtChange_1 : decode cX5_soldAtChange 1 = .ok (.iload_n 2, 1) := by decide +kernel
theorem dX5_soldAtChange_2 : decode cX5_soldAtChange 2 = .ok (.invokestatic 27, 3) := by decide +kernel
theorem dX5_soldAtChange_5 : decode cX5_soldAtChange 5 = .ok (.istore_n 3, 1) := by decide +kernel
theorem dX5_soldAtChange_6 : decode cX5_soldAtChange 6 = .ok (.iload_n 3, 1) := by decide +kernel
theorem dX5_soldAtChange_7 : decode cX5_soldAtChange 7 = .ok (.ifCond .lt 21, 3) := by decide +kernel
theorem dX5_soldAtChange_10 : decode cX5_soldAtChange 10 = .ok (.iload_n 3, 1) := by decide +kernel
theorem dX5_soldAtChange_11 : decode cX5_soldAtChange 11 = .ok (.aload_n 0, 1) := by decide +kernel
theorem dX5_soldAtChange_12 : decode cX5_soldAtChange 12 = .ok (.getfield 18, 3) := by decide +kernel
theorem dX5_soldAtChange_15 : decode cX5_soldAtChange 15 = .ok (.arraylength, 1) := by decide +kernel
theorem dX5_soldAtChange_16 : decode cX5_soldAtChange 16 = .ok (.if_icmp .ge 12, 3) := by decide +kernel
theorem dX5_soldAtChange_19 : decode cX5_soldAtChange 19 = .ok (.aload_n 0, 1) := by decide +kernel
theorem dX5_soldAtChange_20 : decode cX5_soldAtChange 20 = .ok (.getfield 18, 3) := by decide +kernel
theorem dX5_soldAtChange_23 : decode cX5_soldAtChange 23 = .ok (.iload_n 3, 1) := by decide +kernel
theorem dX5_soldAtChange_24 : decode cX5_soldAtChange 24 = .ok (.iaload, 1) := by decide +kernel
theorem dX5_soldAtChange_25 : decode cX5_soldAtChange 25 = .ok (.goto 4, 3) := by decide +kernel
theorem dX5_soldAtChange_28 : decode cX5_soldAtChange 28 = .ok (.iconst 0, 1) := by decide +kernel
theorem dX5_soldAtChange_29 : decode cX5_soldAtChange 29 = .ok (.ireturn, 1) := by decide +kernel
set_option maxRecDepth 20000 in
theorem ggX5_hear_X5_agreedOn : GoodIn wsX5_hear wsX5_agreedOn := goodIn_r _ [8, 9, 10, 11, 7, 12, 3, 13, 14, 15] (by decide +kernel) (by decide +kernel)
set_option maxRecDepth 20000 in
theorem gX5_hear_X5_agreedOn : GoodIn wsX5_hear (wsV RX5 31 RX5 yX5_agreedOn wsX5_agreedOn) := goodIn_app (goodIn_of _ (by decide +kernel)) ggX5_hear_X5_agreedOn
theorem dX5_hear_0 : decode cX5_hear 0 = .ok (.iload_n 1, 1) := by decide +kernel
theorem dX5_hear_1 : decode cX5_hear 1 = .ok (.iconst 4, 1) := by decide +kernel
theorem dX5_hear_2 : decode cX5_hear 2 = .ok (.imul, 1) := by decide +kernel
theorem dX5_hear_3 : decode cX5_hear 3 = .ok (.bipush 50, 2) := by decide +kernel
theorem dX5_hear_5 : decode cX5_hear 5 = .ok (.imul, 1) := by decide +kernel
theorem dX5_hear_6 : decode cX5_hear 6 = .ok (.iload_n 2, 1) := by decide +kernel
theorem dX5_hear_7 : decode cX5_hear 7 = .ok (.iadd, 1) := by decide +kernel
theorem dX5_hear_8 : decode cX5_hear 8 = .ok (.istore 5, 2) := by decide +kernel
theorem dX5_hear_10 : decode cX5_hear 10 = .ok (.iload_n 2, 1) := by decide +kernel
theorem dX5_hear_11 : decode cX5_hear 11 = .ok (.ifCond .lt 36, 3) := by decide +kernel
theorem dX5_hear_14 : decode cX5_hear 14 = .ok (.iload_n 2, 1) := by decide +kernel
theorem dX5_hear_15 : decode cX5_hear 15 = .ok (.aload_n 0, 1) := by decide +kernel
theorem dX5_hear_16 : decode cX5_hear 16 = .ok (.getfield 15, 3) := by decide +kernel
theorem dX5_hear_19 : decode cX5_hear 19 = .ok (.arraylength, 1) := by decide +kernel
theorem dX5_hear_20 : decode cX5_hear 20 = .ok (.if_icmp .ge 27, 3) := by decide +kernel
theorem dX5_hear_23 : decode cX5_hear 23 = .ok (.iload_n 2, 1) := by decide +kernel
theorem dX5_hear_24 : decode cX5_hear 24 = .ok (.aload_n 0, 1) := by decide +kernel
theorem dX5_hear_25 : decode cX5_hear 25 = .ok (.getfield 18, 3) := by decide +kernel
theorem dX5_hear_28 : decode cX5_hear 28 = .ok (.arraylength, 1) := by decide +kernel
theorem dX5_hear_29 : decode cX5_hear 29 = .ok (.if_icmp .ge 18, 3) := by decide +kernel
theorem dX5_hear_32 : decode cX5_hear 32 = .ok (.iload 5, 2) := by decide +kernel
theorem dX5_hear_34 : decode cX5_hear 34 = .ok (.ifCond .lt 13, 3) := by decide +kernel
theorem dX5_hear_37 : decode cX5_hear 37 = .ok (.iload 5, 2) := by decide +kernel
theorem dX5_hear_39 : decode cX5_hear 39 = .ok (.aload_n 0, 1) := by decide +kernel
theorem dX5_hear_40 : decode cX5_hear 40 = .ok (.getfield 9, 3) := by decide +kernel
theorem dX5_hear_43 : decode cX5_hear 43 = .ok (.arraylength, 1) := by decide +kernel
theorem dX5_hear_44 : decode cX5_hear 44 = .ok (.if_icmp .lt 4, 3) := by decide +kernel
theorem dX5_hear_47 : decode cX5_hear 47 = .ok (.return_, 1) := by decide +kernel
theorem dX5_hear_48 : decode cX5_hear 48 = .ok (.aload_n 0, 1) := by decide +kernel
theorem dX5_hear_49 : decode cX5_hear 49 = .ok (.getfield 9, 3) := by decide +kernel
theorem dX5_hear_52 : decode cX5_hear 52 = .ok (.iload 5, 2) := by decide +kernel
theorem dX5_hear_54 : decode cX5_hear 54 = .ok (.iload_n 3, 1) := by decide +kernel
theorem dX5_hear_55 : decode cX5_hear 55 = .ok (.iastore, 1) := by decide +kernel
theorem dX5_hear_56 : decode cX5_hear 56 = .ok (.aload_n 0, 1) := by decide +kernel
theorem dX5_hear_57 : decode cX5_hear 57 = .ok (.iload_n 2, 1) := by decide +kernel
theorem dX5_hear_58 : decode cX5_hear 58 = .ok (.invokevirtual 31, 3) := by decide +kernel
theorem dX5_hear_61 : decode cX5_hear 61 = .ok (.istore 6, 2) := by decide +kernel
theorem dX5_hear_63 : decode cX5_hear 63 = .ok (.iload 6, 2) := by decide +kernel
theorem dX5_hear_65 : decode cX5_hear 65 = .ok (.aload_n 0, 1) := by decide +kernel
theorem dX5_hear_66 : decode cX5_hear 66 = .ok (.getfield 15, 3) := by decide +kernel
theorem dX5_hear_69 : decode cX5_hear 69 = .ok (.iload_n 2, 1) := by decide +kernel
theorem dX5_hear_70 : decode cX5_hear 70 = .ok (.iaload, 1) := by decide +kernel
theorem dX5_hear_71 : decode cX5_hear 71 = .ok (.if_icmp .eq 19, 3) := by decide +kernel
theorem dX5_hear_74 : decode cX5_hear 74 = .ok (.aload_n 0, 1) := by decide +kernel
theorem dX5_hear_75 : decode cX5_hear 75 = .ok (.getfield 15, 3) := by decide +kernel
theorem dX5_hear_78 : decode cX5_hear 78 = .ok (.iload_n 2, 1) := by decide +kernel
theorem dX5_hear_79 : decode cX5_hear 79 = .ok (.iload 6, 2) := by decide +kernel
theorem dX5_hear_81 : decode cX5_hear 81 = .ok (.iastore, 1) := by decide +kernel
theorem dX5_hear_82 : decode cX5_hear 82 = .ok (.aload_n 0, 1) := by decide +kernel
theorem dX5_hear_83 : decode cX5_hear 83 = .ok (.getfield 18, 3) := by decide +kernel
theorem dX5_hear_86 : decode cX5_hear 86 = .ok (.iload_n 2, 1) := by decide +kernel
theorem dX5_hear_87 : decode cX5_hear 87 = .ok (.iload 4, 2) := by decide +kernel
theorem dX5_hear_89 : decode cX5_hear 89 = .ok (.iastore, 1) := by decide +kernel
theorem dX5_hear_90 : decode cX5_hear 90 = .ok (.return_, 1) := by decide +kernel
set_option maxRecDepth 20000 in
theorem ggX5_agreedOn_X5_saidBy : GoodIn wsX5_agreedOn wsX5_saidBy := goodIn_r _ [5, 6, 7, 8, 9] (by decide +kernel) (by decide +kernel)
set_option maxRecDepth 20000 in
theorem gX5_agreedOn_X5_saidBy : GoodIn wsX5_agreedOn (wsV RX5 35 RX5 yX5_saidBy wsX5_saidBy) := goodIn_app (goodIn_of _ (by decide +kernel)) ggX5_agreedOn_X5_saidBy
theorem dX5_agreedOn_0 : decode cX5_agreedOn 0 = .ok (.aload_n 0, 1) := by decide +kernel
theorem dX5_agreedOn_1 : decode cX5_agreedOn 1 = .ok (.iconst 0, 1) := by decide +kernel
theorem dX5_agreedOn_2 : decode cX5_agreedOn 2 = .ok (.iload_n 1, 1) := by decide +kernel
theorem dX5_agreedOn_3 : decode cX5_agreedOn 3 = .ok (.invokevirtual 35, 3) := by decide +kernel
theorem dX5_agreedOn_6 : decode cX5_agreedOn 6 = .ok (.istore_n 2, 1) := by decide +kernel
theorem dX5_agreedOn_7 : decode cX5_agreedOn 7 = .ok (.aload_n 0, 1) := by decide +kernel
theorem dX5_agreedOn_8 : decode cX5_agreedOn 8 = .ok (.iconst 1, 1) := by decide +kernel
theorem dX5_agreedOn_9 : decode cX5_agreedOn 9 = .ok (.iload_n 1, 1) := by decide +kernel
theorem dX5_agreedOn_10 : decode cX5_agreedOn 10 = .ok (.invokevirtual 35, 3) := by decide +kernel
theorem dX5_agreedOn_13 : decode cX5_agreedOn 13 = .ok (.istore_n 3, 1) := by decide +kernel
theorem dX5_agreedOn_14 : decode cX5_agreedOn 14 = .ok (.aload_n 0, 1) := by decide +kernel
theorem dX5_agreedOn_15 : decode cX5_agreedOn 15 = .ok (.iconst 2, 1) := by decide +kernel
theorem dX5_agreedOn_16 : decode cX5_agreedOn 16 = .ok (.iload_n 1, 1) := by decide +kernel
theorem dX5_agreedOn_17 : decode cX5_agreedOn 17 = .ok (.invokevirtual 35, 3) := by decide +kernel
theorem dX5_agreedOn_20 : decode cX5_agreedOn 20 = .ok (.istore 4, 2) := by decide +kernel
theorem dX5_agreedOn_22 : decode cX5_agreedOn 22 = .ok (.iload_n 2, 1) := by decide +kernel
theorem dX5_agreedOn_23 : decode cX5_agreedOn 23 = .ok (.iload_n 3, 1) := by decide +kernel
theorem dX5_agreedOn_24 : decode cX5_agreedOn 24 = .ok (.if_icmp .eq 9, 3) := by decide +kernel
theorem dX5_agreedOn_27 : decode cX5_agreedOn 27 = .ok (.iload_n 2, 1) := by decide +kernel
theorem dX5_agreedOn_28 : decode cX5_agreedOn 28 = .ok (.iload 4, 2) := by decide +kernel
theorem dX5_agreedOn_30 : decode cX5_agreedOn 30 = .ok (.if_icmp .ne 5, 3) := by decide +kernel
theorem dX5_agreedOn_33 : decode cX5_agreedOn 33 = .ok (.iload_n 2, 1) := by decide +kernel
theorem dX5_agreedOn_34 : decode cX5_agreedOn 34 = .ok (.ireturn, 1) := by decide +kernel
theorem dX5_agreedOn_35 : decode cX5_agreedOn 35 = .ok (.iload_n 3, 1) := by decide +kernel
theorem dX5_agreedOn_36 : decode cX5_agreedOn 36 = .ok (.iload 4, 2) := by decide +kernel
theorem dX5_agreedOn_38 : decode cX5_agreedOn 38 = .ok (.if_icmp .ne 7, 3) := by decide +kernel
theorem dX5_agreedOn_41 : decode cX5_agreedOn 41 = .ok (.iload_n 3, 1) := by decide +kernel
theorem dX5_agreedOn_42 : decode cX5_agreedOn 42 = .ok (.goto 4, 3) := by decide +kernel
theorem dX5_agreedOn_45 : decode cX5_agreedOn 45 = .ok (.iconst (-1), 1) := by decide +kernel
theorem dX5_agreedOn_46 : decode cX5_agreedOn 46 = .ok (.ireturn, 1) := by decide +kernel
theorem dX5_saidBy_0 : decode cX5_saidBy 0 = .ok (.iload_n 1, 1) := by decide +kernel
theorem dX5_saidBy_1 : decode cX5_saidBy 1 = .ok (.iconst 4, 1) := by decide +kernel
theorem dX5_saidBy_2 : decode cX5_saidBy 2 = .ok (.imul, 1) := by decide +kernel
theorem dX5_saidBy_3 : decode cX5_saidBy 3 = .ok (.bipush 50, 2) := by decide +kernel
theorem dX5_saidBy_5 : decode cX5_saidBy 5 = .ok (.imul, 1) := by decide +kernel
theorem dX5_saidBy_6 : decode cX5_saidBy 6 = .ok (.iload_n 2, 1) := by decide +kernel
theorem dX5_saidBy_7 : decode cX5_saidBy 7 = .ok (.iadd, 1) := by decide +kernel
theorem dX5_saidBy_8 : decode cX5_saidBy 8 = .ok (.istore_n 3, 1) := by decide +kernel
theorem dX5_saidBy_9 : decode cX5_saidBy 9 = .ok (.iload_n 3, 1) := by decide +kernel
theorem dX5_saidBy_10 : decode cX5_saidBy 10 = .ok (.ifCond .lt 21, 3) := by decide +kernel
theorem dX5_saidBy_13 : decode cX5_saidBy 13 = .ok (.iload_n 3, 1) := by decide +kernel
theorem dX5_saidBy_14 : decode cX5_saidBy 14 = .ok (.aload_n 0, 1) := by decide +kernel
theorem dX5_saidBy_15 : decode cX5_saidBy 15 = .ok (.getfield 9, 3) := by decide +kernel
theorem dX5_saidBy_18 : decode cX5_saidBy 18 = .ok (.arraylength, 1) := by decide +kernel
theorem dX5_saidBy_19 : decode cX5_saidBy 19 = .ok (.if_icmp .ge 12, 3) := by decide +kernel
theorem dX5_saidBy_22 : decode cX5_saidBy 22 = .ok (.aload_n 0, 1) := by decide +kernel
theorem dX5_saidBy_23 : decode cX5_saidBy 23 = .ok (.getfield 9, 3) := by decide +kernel
theorem dX5_saidBy_26 : decode cX5_saidBy 26 = .ok (.iload_n 3, 1) := by decide +kernel
theorem dX5_saidBy_27 : decode cX5_saidBy 27 = .ok (.iaload, 1) := by decide +kernel
theorem dX5_saidBy_28 : decode cX5_saidBy 28 = .ok (.goto 4, 3) := by decide +kernel
theorem dX5_saidBy_31 : decode cX5_saidBy 31 = .ok (.iconst (-1), 1) := by decide +kernel
theorem dX5_saidBy_32 : decode cX5_saidBy 32 = .ok (.ireturn, 1) := by decide +kernel
set_option maxRecDepth 20000 in
theorem ggX6_init_X4_init : GoodIn wsX6_init wsX4_init := goodIn_r _ [11, 12, 2, 3, 13, 14, 15, 24, 25] (by decide +kernel) (by decide +kernel)
set_option maxRecDepth 20000 in
theorem gX6_init_X4_init_n11 : GoodIn wsX6_init (wsX4_init) := ggX6_init_X4_init
set_option maxRecDepth 20000 in
theorem ggX6_init_X4_at : GoodIn wsX6_init wsX4_at := goodIn_r _ [19, 15, 14, 24, 25] (by decide +kernel) (by decide +kernel)
set_option maxRecDepth 20000 in
theorem gX6_init_X4_at : GoodIn wsX6_init (wsV RX6 28 RX4 yX4_at wsX4_at) := goodIn_app (goodIn_of _ (by decide +kernel)) ggX6_init_X4_at
set_option maxRecDepth 20000 in
theorem ggX6_init_X4_append : GoodIn wsX6_init wsX4_append := goodIn_r _ [23, 15, 14, 24, 25] (by decide +kernel) (by decide +kernel)
set_option maxRecDepth 20000 in
theorem gX6_init_X4_append : GoodIn wsX6_init (wsV RX6 32 RX4 yX4_append wsX4_append) := goodIn_app (goodIn_of _ (by decide +kernel)) ggX6_init_X4_append
theorem dX6_init_0 : decode cX6_init 0 = .ok (.aload_n 0, 1) := by decide +kernel
theorem dX6_init_1 : decode cX6_init 1 = .ok (.invokespecial 3, 3) := by decide +kernel
theorem dX6_init_4 : decode cX6_init 4 = .ok (.aload_n 0, 1) := by decide +kernel
theorem dX6_init_5 : decode cX6_init 5 = .ok (.new 9, 3) := by decide +kernel
theorem dX6_init_8 : decode cX6_init 8 = .ok (.dup, 1) := by decide +kernel
theorem dX6_init_9 : decode cX6_init 9 = .ok (.invokespecial 11, 3) := by decide +kernel
theorem dX6_init_12 : decode cX6_init 12 = .ok (.putfield 12, 3) := by decide +kernel
theorem dX6_init_15 : decode cX6_init 15 = .ok (.aload_n 0, 1) := by decide +kernel
theorem dX6_init_16 : decode cX6_init 16 = .ok (.new 9, 3) := by decide +kernel
theorem dX6_init_19 : decode cX6_init 19 = .ok (.dup, 1) := by decide +kernel
theorem dX6_init_20 : decode cX6_init 20 = .ok (.invokespecial 11, 3) := by decide +kernel
theorem dX6_init_23 : decode cX6_init 23 = .ok (.putfield 18, 3) := by decide +kernel
theorem dX6_init_26 : decode cX6_init 26 = .ok (.aload_n 0, 1) := by decide +kernel
theorem dX6_init_27 : decode cX6_init 27 = .ok (.iload_n 1, 1) := by decide +kernel
theorem dX6_init_28 : decode cX6_init 28 = .ok (.putfield 21, 3) := by decide +kernel
theorem dX6_init_31 : decode cX6_init 31 = .ok (.iconst 0, 1) := by decide +kernel
theorem dX6_init_32 : decode cX6_init 32 = .ok (.istore_n 3, 1) := by decide +kernel
theorem dX6_init_33 : decode cX6_init 33 = .ok (.iload_n 3, 1) := by decide +kernel
theorem dX6_init_34 : decode cX6_init 34 = .ok (.aload_n 2, 1) := by decide +kernel
theorem dX6_init_35 : decode cX6_init 35 = .ok (.getfield 25, 3) := by decide +kernel
theorem dX6_init_38 : decode cX6_init 38 = .ok (.if_icmp .ge 29, 3) := by decide +kernel
theorem dX6_init_41 : decode cX6_init 41 = .ok (.aload_n 0, 1) := by decide +kernel
theorem dX6_init_42 : decode cX6_init 42 = .ok (.getfield 12, 3) := by decide +kernel
theorem dX6_init_45 : decode cX6_init 45 = .ok (.aload_n 2, 1) := by decide +kernel
theorem dX6_init_46 : decode cX6_init 46 = .ok (.iload_n 3, 1) := by decide +kernel
theorem dX6_init_47 : decode cX6_init 47 = .ok (.invokevirtual 28, 3) := by decide +kernel
theorem dX6_init_50 : decode cX6_init 50 = .ok (.invokevirtual 32, 3) := by decide +kernel
theorem dX6_init_53 : decode cX6_init 53 = .ok (.aload_n 0, 1) := by decide +kernel
theorem dX6_init_54 : decode cX6_init 54 = .ok (.getfield 18, 3) := by decide +kernel
theorem dX6_init_57 : decode cX6_init 57 = .ok (.iconst (-1), 1) := by decide +kernel
theorem dX6_init_58 : decode cX6_init 58 = .ok (.invokevirtual 32, 3) := by decide +kernel
theorem dX6_init_61 : decode cX6_init 61 = .ok (.iinc 3 1, 3) := by decide +kernel
theorem dX6_init_64 : decode cX6_init 64 = .ok (.goto (-31), 3) := by decide +kernel
theorem dX6_init_67 : decode cX6_init 67 = .ok (.return_, 1) := by decide +kernel
set_option maxRecDepth 20000 in
theorem ggX6_forgetAll_X4_put : GoodIn wsX6_forgetAll wsX4_put := goodIn_r _ [6, 7, 8, 9, 10, 5, 11, 12, 16, 17] (by decide +kernel) (by decide +kernel)
set_option maxRecDepth 20000 in
theorem gX6_forgetAll_X4_put : GoodIn wsX6_forgetAll (wsV RX6 36 RX4 yX4_put wsX4_put) := goodIn_app (goodIn_of _ (by decide +kernel)) ggX6_forgetAll_X4_put
theorem dX6_forgetAll_0 : decode cX6_forgetAll 0 = .ok (.iconst 0, 1) := by decide +kernel
theorem dX6_forgetAll_1 : decode cX6_forgetAll 1 = .ok (.istore_n 1, 1) := by decide +kernel
theorem dX6_forgetAll_2 : decode cX6_forgetAll 2 = .ok (.iload_n 1, 1) := by decide +kernel
theorem dX6_forgetAll_3 : decode cX6_forgetAll 3 = .ok (.aload_n 0, 1) := by decide +kernel
theorem dX6_forgetAll_4 : decode cX6_forgetAll 4 = .ok (.getfield 18, 3) := by decide +kernel
theorem dX6_forgetAll_7 : decode cX6_forgetAll 7 = .ok (.getfield 25, 3) := by decide +kernel
theorem dX6_forgetAll_10 : decode cX6_forgetAll 10 = .ok (.if_icmp .ge 18, 3) := by decide +kernel
theorem dX6_forgetAll_13 : decode cX6_forgetAll 13 = .ok (.aload_n 0, 1) := by decide +kernel
theorem dX6_forgetAll_14 : decode cX6_forgetAll 14 = .ok (.getfield 18, 3) := by decide +kernel
theorem dX6_forgetAll_17 : decode cX6_forgetAll 17 = .ok (.iload_n 1, 1) := by decide +kernel
theorem dX6_forgetAll_18 : decode cX6_forgetAll 18 = .ok (.iconst (-1), 1) := by decide +kernel
theorem dX6_forgetAll_19 : decode cX6_forgetAll 19 = .ok (.invokevirtual 36, 3) := by decide +kernel
theorem dX6_forgetAll_22 : decode cX6_forgetAll 22 = .ok (.iinc 1 1, 3) := by decide +kernel
theorem dX6_forgetAll_25 : decode cX6_forgetAll 25 = .ok (.goto (-23), 3) := by decide +kernel
theorem dX6_forgetAll_28 : decode cX6_forgetAll 28 = .ok (.return_, 1) := by decide +kernel
set_option maxRecDepth 20000 in
theorem ggX6_countOpen_X4_at : GoodIn wsX6_countOpen wsX4_at := goodIn_r _ [6, 7, 8, 12, 13] (by decide +kernel) (by decide +kernel)
set_option maxRecDepth 20000 in
theorem gX6_countOpen_X4_at : GoodIn wsX6_countOpen (wsV RX6 28 RX4 yX4_at wsX4_at) := goodIn_app (goodIn_of _ (by decide +kernel)) ggX6_countOpen_X4_at
theorem dX6_countOpen_0 : decode cX6_countOpen 0 = .ok (.iconst 0, 1) := by decide +kernel
theorem dX6_countOpen_1 : decode cX6_countOpen 1 = .ok (.istore_n 1, 1) := by decide +kernel
theorem dX6_countOpen_2 : decode cX6_countOpen 2 = .ok (.iconst 0, 1) := by decide +kernel
theorem dX6_countOpen_3 : decode cX6_countOpen 3 = .ok (.istore_n 2, 1) := by decide +kernel
theorem dX6_countOpen_4 : decode cX6_countOpen 4 = .ok (.iload_n 2, 1) := by decide +kernel
theorem dX6_countOpen_5 : decode cX6_countOpen 5 = .ok (.aload_n 0, 1) := by decide +kernel
theorem dX6_countOpen_6 : decode cX6_countOpen 6 = .ok (.getfield 18, 3) := by decide +kernel
theorem dX6_countOpen_9 : decode cX6_countOpen 9 = .ok (.getfield 25, 3) := by decide +kernel
theorem dX6_countOpen_12 : decode cX6_countOpen 12 = .ok (.if_icmp .ge 24, 3) := by decide +kernel
theorem dX6_countOpen_15 : decode cX6_countOpen 15 = .ok (.aload_n 0, 1) := by decide +kernel
theorem dX6_countOpen_16 : decode cX6_countOpen 16 = .ok (.getfield 18, 3) := by decide +kernel
theorem dX6_countOpen_19 : decode cX6_countOpen 19 = .ok (.iload_n 2, 1) := by decide +kernel
theorem dX6_countOpen_20 : decode cX6_countOpen 20 = .ok (.invokevirtual 28, 3) := by decide +kernel
theorem dX6_countOpen_23 : decode cX6_countOpen 23 = .ok (.iconst (-1), 1) := by decide +kernel
theorem dX6_countOpen_24 : decode cX6_countOpen 24 = .ok (.if_icmp .ne 6, 3) := by decide +kernel
theorem dX6_countOpen_27 : decode cX6_countOpen 27 = .ok (.iinc 1 1, 3) := by decide +kernel
theorem dX6_countOpen_30 : decode cX6_countOpen 30 = .ok (.iinc 2 1, 3) := by decide +kernel
theorem dX6_countOpen_33 : decode cX6_countOpen 33 = .ok (.goto (-29), 3) := by decide +kernel
theorem dX6_countOpen_36 : decode cX6_countOpen 36 = .ok (.iload_n 1, 1) := by decide +kernel
theorem dX6_countOpen_37 : decode cX6_countOpen 37 = .ok (.ireturn, 1) := by decide +kernel
set_option maxRecDepth 20000 in
theorem ggX6_firstOpen_X4_at : GoodIn wsX6_firstOpen wsX4_at := goodIn_r _ [6, 7, 8, 12, 13] (by decide +kernel) (by decide +kernel)
set_option maxRecDepth 20000 in
theorem gX6_firstOpen_X4_at : GoodIn wsX6_firstOpen (wsV RX6 28 RX4 yX4_at wsX4_at) := goodIn_app (goodIn_of _ (by decide +kernel)) ggX6_firstOpen_X4_at
theorem dX6_firstOpen_0 : decode cX6_firstOpen 0 = .ok (.iconst 0, 1) := by decide +kernel
theorem dX6_firstOpen_1 : decode cX6_firstOpen 1 = .ok (.istore_n 1, 1) := by decide +kernel
theorem dX6_firstOpen_2 : decode cX6_firstOpen 2 = .ok (.iload_n 1, 1) := by decide +kernel
theorem dX6_firstOpen_3 : decode cX6_firstOpen 3 = .ok (.aload_n 0, 1) := by decide +kernel
theorem dX6_firstOpen_4 : decode cX6_firstOpen 4 = .ok (.getfield 18, 3) := by decide +kernel
theorem dX6_firstOpen_7 : decode cX6_firstOpen 7 = .ok (.getfield 25, 3) := by decide +kernel
theorem dX6_firstOpen_10 : decode cX6_firstOpen 10 = .ok (.if_icmp .ge 23, 3) := by decide +kernel
theorem dX6_firstOpen_13 : decode cX6_firstOpen 13 = .ok (.aload_n 0, 1) := by decide +kernel
theorem dX6_firstOpen_14 : decode cX6_firstOpen 14 = .ok (.getfield 18, 3) := by decide +kernel
theorem dX6_firstOpen_17 : decode cX6_firstOpen 17 = .ok (.iload_n 1, 1) := by decide +kernel
theorem dX6_firstOpen_18 : decode cX6_firstOpen 18 = .ok (.invokevirtual 28, 3) := by decide +kernel
theorem dX6_firstOpen_21 : decode cX6_firstOpen 21 = .ok (.iconst (-1), 1) := by decide +kernel
theorem dX6_firstOpen_22 : decode cX6_firstOpen 22 = .ok (.if_icmp .ne 5, 3) := by decide +kernel
theorem dX6_firstOpen_25 : decode cX6_firstOpen 25 = .ok (.iload_n 1, 1) := by decide +kernel
theorem dX6_firstOpen_26 : decode cX6_firstOpen 26 = .ok (.ireturn, 1) := by decide +kernel
theorem dX6_firstOpen_27 : decode cX6_firstOpen 27 = .ok (.iinc 1 1, 3) := by decide +kernel
theorem dX6_firstOpen_30 : decode cX6_firstOpen 30 = .ok (.goto (-28), 3) := by decide +kernel
theorem dX6_firstOpen_33 : decode cX6_firstOpen 33 = .ok (.iconst (-1), 1) := by decide +kernel
theorem dX6_firstOpen_34 : decode cX6_firstOpen 34 = .ok (.ireturn, 1) := by decide +kernel
set_option maxRecDepth 20000 in
theorem ggX6_isAstrayAt_X4_at : GoodIn wsX6_isAstrayAt wsX4_at := goodIn_r _ [8, 9, 10, 23, 24] (by decide +kernel) (by decide +kernel)
set_option maxRecDepth 20000 in
theorem gX6_isAstrayAt_X4_at : GoodIn wsX6_isAstrayAt (wsV RX6 28 RX4 yX4_at wsX4_at) := goodIn_app (goodIn_of _ (by decide +kernel)) ggX6_isAstrayAt_X4_at
set_option maxRecDepth 20000 in
theorem ggX6_isAstrayAt_X5_rulingOf : GoodIn wsX6_isAstrayAt wsX5_rulingOf := goodIn_r _ [15, 16, 17, 18, 14, 19, 25, 26, 27] (by decide +kernel) (by decide +kernel)
set_option maxRecDepth 20000 in
theorem gX6_isAstrayAt_X5_rulingOf : GoodIn wsX6_isAstrayAt (wsV RX6 40 RX5 yX5_rulingOf wsX5_rulingOf) := goodIn_app (goodIn_of _ (by decide +kernel)) ggX6_isAstrayAt_X5_rulingOf
theorem dX6_isAstrayAt_0 : decode cX6_isAstrayAt 0 = .ok (.aload_n 2, 1) := by decide +kernel
theorem dX6_isAstrayAt_1 : decode cX6_isAstrayAt 1 = .ok (.aload_n 0, 1) := by decide +kernel
theorem dX6_isAstrayAt_2 : decode cX6_isAstrayAt 2 = .ok (.getfield 21, 3) := by decide +kernel
theorem dX6_isAstrayAt_5 : decode cX6_isAstrayAt 5 = .ok (.aload_n 0, 1) := by decide +kernel
theorem dX6_isAstrayAt_6 : decode cX6_isAstrayAt 6 = .ok (.getfield 12, 3) := by decide +kernel
theorem dX6_isAstrayAt_9 : decode cX6_isAstrayAt 9 = .ok (.iload_n 1, 1) := by decide +kernel
theorem dX6_isAstrayAt_10 : decode cX6_isAstrayAt 10 = .ok (.invokevirtual 28, 3) := by decide +kernel
theorem dX6_isAstrayAt_13 : decode cX6_isAstrayAt 13 = .ok (.invokevirtual 40, 3) := by decide +kernel
theorem dX6_isAstrayAt_16 : decode cX6_isAstrayAt 16 = .ok (.istore_n 3, 1) := by decide +kernel
theorem dX6_isAstrayAt_17 : decode cX6_isAstrayAt 17 = .ok (.iload_n 3, 1) := by decide +kernel
theorem dX6_isAstrayAt_18 : decode cX6_isAstrayAt 18 = .ok (.iconst (-1), 1) := by decide +kernel
theorem dX6_isAstrayAt_19 : decode cX6_isAstrayAt 19 = .ok (.if_icmp .eq 19, 3) := by decide +kernel
theorem dX6_isAstrayAt_22 : decode cX6_isAstrayAt 22 = .ok (.iload_n 3, 1) := by decide +kernel
theorem dX6_isAstrayAt_23 : decode cX6_isAstrayAt 23 = .ok (.aload_n 0, 1) := by decide +kernel
theorem dX6_isAstrayAt_24 : decode cX6_isAstrayAt 24 = .ok (.getfield 18, 3) := by decide +kernel
theorem dX6_isAstrayAt_27 : decode cX6_isAstrayAt 27 = .ok (.iload_n 1, 1) := by decide +kernel
theorem dX6_isAstrayAt_28 : decode cX6_isAstrayAt 28 = .ok (.invokevirtual 28, 3) := by decide +kernel
theorem dX6_isAstrayAt_31 : decode cX6_isAstrayAt 31 = .ok (.if_icmp .eq 7, 3) := by decide +kernel
theorem dX6_isAstrayAt_34 : decode cX6_isAstrayAt 34 = .ok (.iconst 1, 1) := by decide +kernel
theorem dX6_isAstrayAt_35 : decode cX6_isAstrayAt 35 = .ok (.goto 4, 3) := by decide +kernel
theorem dX6_isAstrayAt_38 : decode cX6_isAstrayAt 38 = .ok (.iconst 0, 1) := by decide +kernel
theorem dX6_isAstrayAt_39 : decode cX6_isAstrayAt 39 = .ok (.ireturn, 1) := by decide +kernel
set_option maxRecDepth 20000 in
theorem ggX6_firstAstray_X6_isAstrayAt : GoodIn wsX6_firstAstray wsX6_isAstrayAt := goodIn_r _ [6, 7, 1, 8, 9, 10, 11, 12, 13, 14, 15, 16, 17, 18, 19, 20, 21, 22, 23, 24, 25, 26, 27, 28, 29, 30, 31, 32] (by decide +kernel) (by decide +kernel)
set_option maxRecDepth 20000 in
theorem gX6_firstAstray_X6_isAstrayAt : GoodIn wsX6_firstAstray (wsV RX6 46 RX6 yX6_isAstrayAt wsX6_isAstrayAt) := goodIn_app (goodIn_of _ (by decide +kernel)) ggX6_firstAstray_X6_isAstrayAt
theorem dX6_firstAstray_0 : decode cX6_firstAstray 0 = .ok (.iconst 0, 1) := by decide +kernel
theorem dX6_firstAstray_1 : decode cX6_firstAstray 1 = .ok (.istore_n 2, 1) := by decide +kernel
theorem dX6_firstAstray_2 : decode cX6_firstAstray 2 = .ok (.iload_n 2, 1) := by decide +kernel
theorem dX6_firstAstray_3 : decode cX6_firstAstray 3 = .ok (.aload_n 0, 1) := by decide +kernel
theorem dX6_firstAstray_4 : decode cX6_firstAstray 4 = .ok (.getfield 12, 3) := by decide +kernel
theorem dX6_firstAstray_7 : decode cX6_firstAstray 7 = .ok (.getfield 25, 3) := by decide +kernel
theorem dX6_firstAstray_10 : decode cX6_firstAstray 10 = .ok (.if_icmp .ge 20, 3) := by decide +kernel
theorem dX6_firstAstray_13 : decode cX6_firstAstray 13 = .ok (.aload_n 0, 1) := by decide +kernel
theorem dX6_firstAstray_14 : decode cX6_firstAstray 14 = .ok (.iload_n 2, 1) := by decide +kernel
theorem dX6_firstAstray_15 : decode cX6_firstAstray 15 = .ok (.aload_n 1, 1) := by decide +kernel
theorem dX6_firstAstray_16 : decode cX6_firstAstray 16 = .ok (.invokevirtual 46, 3) := by decide +kernel
theorem dX6_firstAstray_19 : decode cX6_firstAstray 19 = .ok (.ifCond .eq 5, 3) := by decide +kernel
theorem dX6_firstAstray_22 : decode cX6_firstAstray 22 = .ok (.iload_n 2, 1) := by decide +kernel
theorem dX6_firstAstray_23 : decode cX6_firstAstray 23 = .ok (.ireturn, 1) := by decide +kernel
theorem dX6_firstAstray_24 : decode cX6_firstAstray 24 = .ok (.iinc 2 1, 3) := by decide +kernel
theorem dX6_firstAstray_27 : decode cX6_firstAstray 27 = .ok (.goto (-25), 3) := by decide +kernel
theorem dX6_firstAstray_30 : decode cX6_firstAstray 30 = .ok (.iconst (-1), 1) := by decide +kernel
theorem dX6_firstAstray_31 : decode cX6_firstAstray 31 = .ok (.ireturn, 1) := by decide +kernel
theorem dJ9_max_7cf53_0 : decode cJ9_max_7cf53 0 = .ok (.iload_n 0, 1) := by decide +kernel
theorem dJ9_max_7cf53_1 : decode cJ9_max_7cf53 1 = .ok (.iload_n 1, 1) := by decide +kernel
theorem dJ9_max_7cf53_2 : decode cJ9_max_7cf53 2 = .ok (.if_icmp .lt 7, 3) := by decide +kernel
theorem dJ9_max_7cf53_5 : decode cJ9_max_7cf53 5 = .ok (.iload_n 0, 1) := by decide +kernel
theorem dJ9_max_7cf53_6 : decode cJ9_max_7cf53 6 = .ok (.goto 4, 3) := by decide +kernel
theorem dJ9_max_7cf53_9 : decode cJ9_max_7cf53 9 = .ok (.iload_n 1, 1) := by decide +kernel
theorem dJ9_max_7cf53_10 : decode cJ9_max_7cf53 10 = .ok (.ireturn, 1) := by decide +kernel
theorem dJ9_min_7cf53_0 : decode cJ9_min_7cf53 0 = .ok (.iload_n 0, 1) := by decide +kernel
theorem dJ9_min_7cf53_1 : decode cJ9_min_7cf53 1 = .ok (.iload_n 1, 1) := by decide +kernel
theorem dJ9_min_7cf53_2 : decode cJ9_min_7cf53 2 = .ok (.if_icmp .gt 7, 3) := by decide +kernel
theorem dJ9_min_7cf53_5 : decode cJ9_min_7cf53 5 = .ok (.iload_n 0, 1) := by decide +kernel
theorem dJ9_min_7cf53_6 : decode cJ9_min_7cf53 6 = .ok (.goto 4, 3) := by decide +kernel
theorem dJ9_min_7cf53_9 : decode cJ9_min_7cf53 9 = .ok (.iload_n 1, 1) := by decide +kernel
theorem dJ9_min_7cf53_10 : decode cJ9_min_7cf53 10 = .ok (.ireturn, 1) := by decide +kernel
theorem dJ7_fill_53178_0 : decode cJ7_fill_53178 0 = .ok (.iconst 0, 1) := by decide +kernel
theorem dJ7_fill_53178_1 : decode cJ7_fill_53178 1 = .ok (.istore_n 2, 1) := by decide +kernel
theorem dJ7_fill_53178_2 : decode cJ7_fill_53178 2 = .ok (.aload_n 0, 1) := by decide +kernel
theorem dJ7_fill_53178_3 : decode cJ7_fill_53178 3 = .ok (.arraylength, 1) := by decide +kernel
theorem dJ7_fill_53178_4 : decode cJ7_fill_53178 4 = .ok (.istore_n 3, 1) := by decide +kernel
theorem dJ7_fill_53178_5 : decode cJ7_fill_53178 5 = .ok (.iload_n 2, 1) := by decide +kernel
theorem dJ7_fill_53178_6 : decode cJ7_fill_53178 6 = .ok (.iload_n 3, 1) := by decide +kernel
theorem dJ7_fill_53178_7 : decode cJ7_fill_53178 7 = .ok (.if_icmp .ge 13, 3) := by decide +kernel
theorem dJ7_fill_53178_10 : decode cJ7_fill_53178 10 = .ok (.aload_n 0, 1) := by decide +kernel
theorem dJ7_fill_53178_11 : decode cJ7_fill_53178 11 = .ok (.iload_n 2, 1) := by decide +kernel
theorem dJ7_fill_53178_12 : decode cJ7_fill_53178 12 = .ok (.iload_n 1, 1) := by decide +kernel
theorem dJ7_fill_53178_13 : decode cJ7_fill_53178 13 = .ok (.iastore, 1) := by decide +kernel
theorem dJ7_fill_53178_14 : decode cJ7_fill_53178 14 = .ok (.iinc 2 1, 3) := by decide +kernel
theorem dJ7_fill_53178_17 : decode cJ7_fill_53178 17 = .ok (.goto (-12), 3) := by decide +kernel
theorem dJ7_fill_53178_20 : decode cJ7_fill_53178 20 = .ok (.return_, 1) := by decide +kernel
