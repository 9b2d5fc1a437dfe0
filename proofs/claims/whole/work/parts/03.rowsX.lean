theorem dX0_init_0 : decode cX0_init 0 = .ok (.aload_n 0, 1) := by decide +kernel
theorem dX0_init_1 : decode cX0_init 1 = .ok (.invokespecial 3, 3) := by decide +kernel
theorem dX0_init_4 : decode cX0_init 4 = .ok (.aload_n 0, 1) := by decide +kernel
theorem dX0_init_5 : decode cX0_init 5 = .ok (.iload_n 1, 1) := by decide +kernel
theorem dX0_init_6 : decode cX0_init 6 = .ok (.putfield 9, 3) := by decide +kernel
theorem dX0_init_9 : decode cX0_init 9 = .ok (.aload_n 0, 1) := by decide +kernel
theorem dX0_init_10 : decode cX0_init 10 = .ok (.aload_n 2, 1) := by decide +kernel
theorem dX0_init_11 : decode cX0_init 11 = .ok (.putfield 15, 3) := by decide +kernel
theorem dX0_init_14 : decode cX0_init 14 = .ok (.aload_n 0, 1) := by decide +kernel
theorem dX0_init_15 : decode cX0_init 15 = .ok (.aload_n 3, 1) := by decide +kernel
theorem dX0_init_16 : decode cX0_init 16 = .ok (.putfield 19, 3) := by decide +kernel
theorem dX0_init_19 : decode cX0_init 19 = .ok (.aload_n 0, 1) := by decide +kernel
theorem dX0_init_20 : decode cX0_init 20 = .ok (.iload 4, 2) := by decide +kernel
theorem dX0_init_22 : decode cX0_init 22 = .ok (.putfield 22, 3) := by decide +kernel
theorem dX0_init_25 : decode cX0_init 25 = .ok (.aload_n 0, 1) := by decide +kernel
theorem dX0_init_26 : decode cX0_init 26 = .ok (.iload 5, 2) := by decide +kernel
theorem dX0_init_28 : decode cX0_init 28 = .ok (.putfield 25, 3) := by decide +kernel
theorem dX0_init_31 : decode cX0_init 31 = .ok (.return_, 1) := by decide +kernel
set_option maxRecDepth 20000 in
theorem ggX0_isMet_X1_relates : GoodIn wsX0_isMet wsX1_relates := goodIn_r _ [12, 13, 14, 15, 16, 11, 17, 18, 19, 20, 21, 22, 23, 29, 30, 31, 32, 33, 34, 35, 36, 37] (by decide +kernel) (by decide +kernel)
set_option maxRecDepth 20000 in
theorem gX0_isMet_X1_relates : GoodIn wsX0_isMet (wsV RX0 35 RX1 yX1_relates wsX1_relates) := goodIn_app (goodIn_of _ (by decide +kernel)) ggX0_isMet_X1_relates
theorem dX0_isMet_0 : decode cX0_isMet 0 = .ok (.aload_n 0, 1) := by decide +kernel
theorem dX0_isMet_1 : decode cX0_isMet 1 = .ok (.getfield 22, 3) := by decide +kernel
theorem dX0_isMet_4 : decode cX0_isMet 4 = .ok (.ldc 29, 2) := by decide +kernel
theorem dX0_isMet_6 : decode cX0_isMet 6 = .ok (.if_icmp .ne 13, 3) := by decide +kernel
theorem dX0_isMet_9 : decode cX0_isMet 9 = .ok (.aload_n 0, 1) := by decide +kernel
theorem dX0_isMet_10 : decode cX0_isMet 10 = .ok (.getfield 19, 3) := by decide +kernel
theorem dX0_isMet_13 : decode cX0_isMet 13 = .ok (.getfield 30, 3) := by decide +kernel
theorem dX0_isMet_16 : decode cX0_isMet 16 = .ok (.goto 7, 3) := by decide +kernel
theorem dX0_isMet_19 : decode cX0_isMet 19 = .ok (.aload_n 0, 1) := by decide +kernel
theorem dX0_isMet_20 : decode cX0_isMet 20 = .ok (.getfield 22, 3) := by decide +kernel
theorem dX0_isMet_23 : decode cX0_isMet 23 = .ok (.istore_n 1, 1) := by decide +kernel
theorem dX0_isMet_24 : decode cX0_isMet 24 = .ok (.aload_n 0, 1) := by decide +kernel
theorem dX0_isMet_25 : decode cX0_isMet 25 = .ok (.getfield 15, 3) := by decide +kernel
theorem dX0_isMet_28 : decode cX0_isMet 28 = .ok (.aload_n 0, 1) := by decide +kernel
theorem dX0_isMet_29 : decode cX0_isMet 29 = .ok (.getfield 15, 3) := by decide +kernel
theorem dX0_isMet_32 : decode cX0_isMet 32 = .ok (.getfield 30, 3) := by decide +kernel
theorem dX0_isMet_35 : decode cX0_isMet 35 = .ok (.aload_n 0, 1) := by decide +kernel
theorem dX0_isMet_36 : decode cX0_isMet 36 = .ok (.getfield 9, 3) := by decide +kernel
theorem dX0_isMet_39 : decode cX0_isMet 39 = .ok (.aload_n 0, 1) := by decide +kernel
theorem dX0_isMet_40 : decode cX0_isMet 40 = .ok (.getfield 19, 3) := by decide +kernel
theorem dX0_isMet_43 : decode cX0_isMet 43 = .ok (.iload_n 1, 1) := by decide +kernel
theorem dX0_isMet_44 : decode cX0_isMet 44 = .ok (.invokevirtual 35, 3) := by decide +kernel
theorem dX0_isMet_47 : decode cX0_isMet 47 = .ok (.aload_n 0, 1) := by decide +kernel
theorem dX0_isMet_48 : decode cX0_isMet 48 = .ok (.getfield 25, 3) := by decide +kernel
theorem dX0_isMet_51 : decode cX0_isMet 51 = .ok (.if_icmp .eq 7, 3) := by decide +kernel
theorem dX0_isMet_54 : decode cX0_isMet 54 = .ok (.iconst 1, 1) := by decide +kernel
theorem dX0_isMet_55 : decode cX0_isMet 55 = .ok (.goto 4, 3) := by decide +kernel
theorem dX0_isMet_58 : decode cX0_isMet 58 = .ok (.iconst 0, 1) := by decide +kernel
theorem dX0_isMet_59 : decode cX0_isMet 59 = .ok (.ireturn, 1) := by decide +kernel
set_option maxRecDepth 20000 in
theorem ggX1_init_X2_init : GoodIn wsX1_init wsX2_init := goodIn_r _ [19, 20, 2, 3, 21, 22, 23, 24, 25, 26, 27, 28, 29] (by decide +kernel) (by decide +kernel)
set_option maxRecDepth 20000 in
theorem gX1_init_X2_init : GoodIn wsX1_init (wsX2_init) := ggX1_init_X2_init
theorem dX1_init_0 : decode cX1_init 0 = .ok (.aload_n 0, 1) := by decide +kernel
theorem dX1_init_1 : decode cX1_init 1 = .ok (.invokespecial 3, 3) := by decide +kernel
theorem dX1_init_4 : decode cX1_init 4 = .ok (.aload_n 0, 1) := by decide +kernel
theorem dX1_init_5 : decode cX1_init 5 = .ok (.new 9, 3) := by decide +kernel
theorem dX1_init_8 : decode cX1_init 8 = .ok (.dup, 1) := by decide +kernel
theorem dX1_init_9 : decode cX1_init 9 = .ok (.bipush 12, 2) := by decide +kernel
theorem dX1_init_11 : decode cX1_init 11 = .ok (.invokespecial 11, 3) := by decide +kernel
theorem dX1_init_14 : decode cX1_init 14 = .ok (.putfield 14, 3) := by decide +kernel
theorem dX1_init_17 : decode cX1_init 17 = .ok (.aload_n 0, 1) := by decide +kernel
theorem dX1_init_18 : decode cX1_init 18 = .ok (.ldc 20, 2) := by decide +kernel
theorem dX1_init_20 : decode cX1_init 20 = .ok (.putfield 21, 3) := by decide +kernel
theorem dX1_init_23 : decode cX1_init 23 = .ok (.aload_n 0, 1) := by decide +kernel
theorem dX1_init_24 : decode cX1_init 24 = .ok (.ldc 20, 2) := by decide +kernel
theorem dX1_init_26 : decode cX1_init 26 = .ok (.putfield 25, 3) := by decide +kernel
theorem dX1_init_29 : decode cX1_init 29 = .ok (.aload_n 0, 1) := by decide +kernel
theorem dX1_init_30 : decode cX1_init 30 = .ok (.ldc 20, 2) := by decide +kernel
theorem dX1_init_32 : decode cX1_init 32 = .ok (.putfield 28, 3) := by decide +kernel
theorem dX1_init_35 : decode cX1_init 35 = .ok (.aload_n 0, 1) := by decide +kernel
theorem dX1_init_36 : decode cX1_init 36 = .ok (.iconst 0, 1) := by decide +kernel
theorem dX1_init_37 : decode cX1_init 37 = .ok (.putfield 31, 3) := by decide +kernel
theorem dX1_init_40 : decode cX1_init 40 = .ok (.aload_n 0, 1) := by decide +kernel
theorem dX1_init_41 : decode cX1_init 41 = .ok (.ldc 20, 2) := by decide +kernel
theorem dX1_init_43 : decode cX1_init 43 = .ok (.putfield 34, 3) := by decide +kernel
theorem dX1_init_46 : decode cX1_init 46 = .ok (.aload_n 0, 1) := by decide +kernel
theorem dX1_init_47 : decode cX1_init 47 = .ok (.ldc 20, 2) := by decide +kernel
theorem dX1_init_49 : decode cX1_init 49 = .ok (.putfield 37, 3) := by decide +kernel
theorem dX1_init_52 : decode cX1_init 52 = .ok (.aload_n 0, 1) := by decide +kernel
theorem dX1_init_53 : decode cX1_init 53 = .ok (.iconst 0, 1) := by decide +kernel
theorem dX1_init_54 : decode cX1_init 54 = .ok (.putfield 40, 3) := by decide +kernel
theorem dX1_init_57 : decode cX1_init 57 = .ok (.aload_n 0, 1) := by decide +kernel
theorem dX1_init_58 : decode cX1_init 58 = .ok (.iload_n 1, 1) := by decide +kernel
theorem dX1_init_59 : decode cX1_init 59 = .ok (.putfield 43, 3) := by decide +kernel
theorem dX1_init_62 : decode cX1_init 62 = .ok (.return_, 1) := by decide +kernel
theorem dX1_hasValue_0 : decode cX1_hasValue 0 = .ok (.aload_n 0, 1) := by decide +kernel
theorem dX1_hasValue_1 : decode cX1_hasValue 1 = .ok (.getfield 21, 3) := by decide +kernel
theorem dX1_hasValue_4 : decode cX1_hasValue 4 = .ok (.ldc 20, 2) := by decide +kernel
theorem dX1_hasValue_6 : decode cX1_hasValue 6 = .ok (.if_icmp .eq 7, 3) := by decide +kernel
theorem dX1_hasValue_9 : decode cX1_hasValue 9 = .ok (.iconst 1, 1) := by decide +kernel
theorem dX1_hasValue_10 : decode cX1_hasValue 10 = .ok (.goto 4, 3) := by decide +kernel
theorem dX1_hasValue_13 : decode cX1_hasValue 13 = .ok (.iconst 0, 1) := by decide +kernel
theorem dX1_hasValue_14 : decode cX1_hasValue 14 = .ok (.ireturn, 1) := by decide +kernel
theorem dX1_hasLimit_0 : decode cX1_hasLimit 0 = .ok (.iload_n 1, 1) := by decide +kernel
theorem dX1_hasLimit_1 : decode cX1_hasLimit 1 = .ok (.ifCond .eq 10, 3) := by decide +kernel
theorem dX1_hasLimit_4 : decode cX1_hasLimit 4 = .ok (.aload_n 0, 1) := by decide +kernel
theorem dX1_hasLimit_5 : decode cX1_hasLimit 5 = .ok (.getfield 28, 3) := by decide +kernel
theorem dX1_hasLimit_8 : decode cX1_hasLimit 8 = .ok (.goto 7, 3) := by decide +kernel
theorem dX1_hasLimit_11 : decode cX1_hasLimit 11 = .ok (.aload_n 0, 1) := by decide +kernel
theorem dX1_hasLimit_12 : decode cX1_hasLimit 12 = .ok (.getfield 25, 3) := by decide +kernel
theorem dX1_hasLimit_15 : decode cX1_hasLimit 15 = .ok (.ldc 20, 2) := by decide +kernel
theorem dX1_hasLimit_17 : decode cX1_hasLimit 17 = .ok (.if_icmp .eq 7, 3) := by decide +kernel
theorem dX1_hasLimit_20 : decode cX1_hasLimit 20 = .ok (.iconst 1, 1) := by decide +kernel
theorem dX1_hasLimit_21 : decode cX1_hasLimit 21 = .ok (.goto 4, 3) := by decide +kernel
theorem dX1_hasLimit_24 : decode cX1_hasLimit 24 = .ok (.iconst 0, 1) := by decide +kernel
theorem dX1_hasLimit_25 : decode cX1_hasLimit 25 = .ok (.ireturn, 1) := by decide +kernel
theorem dX1_putLimit_0 : decode cX1_putLimit 0 = .ok (.iload_n 1, 1) := by decide +kernel
theorem dX1_putLimit_1 : decode cX1_putLimit 1 = .ok (.ifCond .eq 11, 3) := by decide +kernel
theorem dX1_putLimit_4 : decode cX1_putLimit 4 = .ok (.aload_n 0, 1) := by decide +kernel
theorem dX1_putLimit_5 : decode cX1_putLimit 5 = .ok (.iload_n 2, 1) := by decide +kernel
theorem dX1_putLimit_6 : decode cX1_putLimit 6 = .ok (.putfield 28, 3) := by decide +kernel
theorem dX1_putLimit_9 : decode cX1_putLimit 9 = .ok (.goto 8, 3) := by decide +kernel
theorem dX1_putLimit_12 : decode cX1_putLimit 12 = .ok (.aload_n 0, 1) := by decide +kernel
theorem dX1_putLimit_13 : decode cX1_putLimit 13 = .ok (.iload_n 2, 1) := by decide +kernel
theorem dX1_putLimit_14 : decode cX1_putLimit 14 = .ok (.putfield 25, 3) := by decide +kernel
theorem dX1_putLimit_17 : decode cX1_putLimit 17 = .ok (.return_, 1) := by decide +kernel
set_option maxRecDepth 20000 in
theorem ggX1_receive_X1_kindOfTaking : GoodIn wsX1_receive wsX1_kindOfTaking := goodIn_r _ [8, 9, 10, 11, 7, 12, 13, 14, 15, 16, 17, 18, 1, 19, 20, 21, 22, 23, 24, 25, 26, 27, 28, 29, 30, 31, 32, 2, 33, 34, 35, 36, 37, 38, 39, 40, 41, 55, 56, 57, 58, 59, 60, 61, 62, 63] (by decide +kernel) (by decide +kernel)
set_option maxRecDepth 20000 in
theorem gX1_receive_X1_kindOfTaking : GoodIn wsX1_receive (wsV RX1 47 RX1 yX1_kindOfTaking wsX1_kindOfTaking) := goodIn_app (goodIn_of _ (by decide +kernel)) ggX1_receive_X1_kindOfTaking
set_option maxRecDepth 20000 in
theorem ggX1_receive_X1_putMarks : GoodIn wsX1_receive wsX1_putMarks := goodIn_r _ [45, 46, 1, 47, 15, 16, 17, 7, 18, 19, 20, 21, 22, 23, 24, 25, 26, 27, 28, 55, 56, 57, 58, 59, 60, 61, 62, 63] (by decide +kernel) (by decide +kernel)
set_option maxRecDepth 20000 in
theorem gX1_receive_X1_putMarks : GoodIn wsX1_receive (wsV RX1 51 RX1 yX1_putMarks wsX1_putMarks) := goodIn_app (goodIn_of _ (by decide +kernel)) ggX1_receive_X1_putMarks
set_option maxRecDepth 20000 in
theorem ggX1_receive_X2_push : GoodIn wsX1_receive wsX2_push := goodIn_r _ [52, 53, 54, 64, 65] (by decide +kernel) (by decide +kernel)
set_option maxRecDepth 20000 in
theorem gX1_receive_X2_push : GoodIn wsX1_receive (wsV RX1 54 RX2 yX2_push wsX2_push) := goodIn_app (goodIn_of _ (by decide +kernel)) ggX1_receive_X2_push
theorem dX1_receive_0 : decode cX1_receive 0 = .ok (.aload_n 0, 1) := by decide +kernel
theorem dX1_receive_1 : decode cX1_receive 1 = .ok (.iload_n 1, 1) := by decide +kernel
theorem dX1_receive_2 : decode cX1_receive 2 = .ok (.invokevirtual 47, 3) := by decide +kernel
theorem dX1_receive_5 : decode cX1_receive 5 = .ok (.istore_n 2, 1) := by decide +kernel
theorem dX1_receive_6 : decode cX1_receive 6 = .ok (.iload_n 2, 1) := by decide +kernel
theorem dX1_receive_7 : decode cX1_receive 7 = .ok (.ifCond .ne 12, 3) := by decide +kernel
theorem dX1_receive_10 : decode cX1_receive 10 = .ok (.aload_n 0, 1) := by decide +kernel
theorem dX1_receive_11 : decode cX1_receive 11 = .ok (.ldc 20, 2) := by decide +kernel
theorem dX1_receive_13 : decode cX1_receive 13 = .ok (.putfield 21, 3) := by decide +kernel
theorem dX1_receive_16 : decode cX1_receive 16 = .ok (.goto 18, 3) := by decide +kernel
theorem dX1_receive_19 : decode cX1_receive 19 = .ok (.iload_n 2, 1) := by decide +kernel
theorem dX1_receive_20 : decode cX1_receive 20 = .ok (.iconst 2, 1) := by decide +kernel
theorem dX1_receive_21 : decode cX1_receive 21 = .ok (.if_icmp .ne 13, 3) := by decide +kernel
theorem dX1_receive_24 : decode cX1_receive 24 = .ok (.aload_n 0, 1) := by decide +kernel
theorem dX1_receive_25 : decode cX1_receive 25 = .ok (.iload_n 1, 1) := by decide +kernel
theorem dX1_receive_26 : decode cX1_receive 26 = .ok (.putfield 21, 3) := by decide +kernel
theorem dX1_receive_29 : decode cX1_receive 29 = .ok (.aload_n 0, 1) := by decide +kernel
theorem dX1_receive_30 : decode cX1_receive 30 = .ok (.iload_n 1, 1) := by decide +kernel
theorem dX1_receive_31 : decode cX1_receive 31 = .ok (.invokevirtual 51, 3) := by decide +kernel
theorem dX1_receive_34 : decode cX1_receive 34 = .ok (.aload_n 0, 1) := by decide +kernel
theorem dX1_receive_35 : decode cX1_receive 35 = .ok (.getfield 14, 3) := by decide +kernel
theorem dX1_receive_38 : decode cX1_receive 38 = .ok (.aload_n 0, 1) := by decide +kernel
theorem dX1_receive_39 : decode cX1_receive 39 = .ok (.getfield 21, 3) := by decide +kernel
theorem dX1_receive_42 : decode cX1_receive 42 = .ok (.invokevirtual 54, 3) := by decide +kernel
theorem dX1_receive_45 : decode cX1_receive 45 = .ok (.iload_n 2, 1) := by decide +kernel
theorem dX1_receive_46 : decode cX1_receive 46 = .ok (.ireturn, 1) := by decide +kernel
set_option maxRecDepth 20000 in
theorem ggX1_lose_X2_push : GoodIn wsX1_lose wsX2_push := goodIn_r _ [8, 9, 10, 20, 21] (by decide +kernel) (by decide +kernel)
set_option maxRecDepth 20000 in
theorem gX1_lose_X2_push : GoodIn wsX1_lose (wsV RX1 54 RX2 yX2_push wsX2_push) := goodIn_app (goodIn_of _ (by decide +kernel)) ggX1_lose_X2_push
theorem dX1_lose_0 : decode cX1_lose 0 = .ok (.aload_n 0, 1) := by decide +kernel
theorem dX1_lose_1 : decode cX1_lose 1 = .ok (.ldc 20, 2) := by decide +kernel
theorem dX1_lose_3 : decode cX1_lose 3 = .ok (.putfield 21, 3) := by decide +kernel
theorem dX1_lose_6 : decode cX1_lose 6 = .ok (.aload_n 0, 1) := by decide +kernel
theorem dX1_lose_7 : decode cX1_lose 7 = .ok (.getfield 14, 3) := by decide +kernel
theorem dX1_lose_10 : decode cX1_lose 10 = .ok (.ldc 20, 2) := by decide +kernel
theorem dX1_lose_12 : decode cX1_lose 12 = .ok (.invokevirtual 54, 3) := by decide +kernel
theorem dX1_lose_15 : decode cX1_lose 15 = .ok (.return_, 1) := by decide +kernel
set_option maxRecDepth 20000 in
theorem ggX1_forget_X2_empty : GoodIn wsX1_forget wsX2_empty := goodIn_r _ [9, 10, 20, 21] (by decide +kernel) (by decide +kernel)
set_option maxRecDepth 20000 in
theorem gX1_forget_X2_empty : GoodIn wsX1_forget (wsV RX1 57 RX2 yX2_empty wsX2_empty) := goodIn_app (goodIn_of _ (by decide +kernel)) ggX1_forget_X2_empty
theorem dX1_forget_0 : decode cX1_forget 0 = .ok (.aload_n 0, 1) := by decide +kernel
theorem dX1_forget_1 : decode cX1_forget 1 = .ok (.ldc 20, 2) := by decide +kernel
theorem dX1_forget_3 : decode cX1_forget 3 = .ok (.putfield 34, 3) := by decide +kernel
theorem dX1_forget_6 : decode cX1_forget 6 = .ok (.aload_n 0, 1) := by decide +kernel
theorem dX1_forget_7 : decode cX1_forget 7 = .ok (.ldc 20, 2) := by decide +kernel
theorem dX1_forget_9 : decode cX1_forget 9 = .ok (.putfield 37, 3) := by decide +kernel
theorem dX1_forget_12 : decode cX1_forget 12 = .ok (.aload_n 0, 1) := by decide +kernel
theorem dX1_forget_13 : decode cX1_forget 13 = .ok (.getfield 14, 3) := by decide +kernel
theorem dX1_forget_16 : decode cX1_forget 16 = .ok (.invokevirtual 57, 3) := by decide +kernel
theorem dX1_forget_19 : decode cX1_forget 19 = .ok (.return_, 1) := by decide +kernel
set_option maxRecDepth 20000 in
theorem ggX1_rowUntil_X2_at : GoodIn wsX1_rowUntil wsX2_at := goodIn_r _ [7, 8, 9, 35, 36] (by decide +kernel) (by decide +kernel)
set_option maxRecDepth 20000 in
theorem gX1_rowUntil_X2_at : GoodIn wsX1_rowUntil (wsV RX1 63 RX2 yX2_at wsX2_at) := goodIn_app (goodIn_of _ (by decide +kernel)) ggX1_rowUntil_X2_at
set_option maxRecDepth 20000 in
theorem ggX1_rowUntil_X1_relates : GoodIn wsX1_rowUntil wsX1_relates := goodIn_r _ [14, 15, 16, 17, 18, 13, 19, 20, 21, 22, 23, 24, 25, 26, 27, 28, 29, 30, 31, 32, 33, 34] (by decide +kernel) (by decide +kernel)
set_option maxRecDepth 20000 in
theorem gX1_rowUntil_X1_relates : GoodIn wsX1_rowUntil (wsV RX1 66 RX1 yX1_relates wsX1_relates) := goodIn_app (goodIn_of _ (by decide +kernel)) ggX1_rowUntil_X1_relates
theorem dX1_rowUntil_0 : decode cX1_rowUntil 0 = .ok (.iconst 0, 1) := by decide +kernel
theorem dX1_rowUntil_1 : decode cX1_rowUntil 1 = .ok (.istore_n 3, 1) := by decide +kernel
theorem dX1_rowUntil_2 : decode cX1_rowUntil 2 = .ok (.iload_n 3, 1) := by decide +kernel
theorem dX1_rowUntil_3 : decode cX1_rowUntil 3 = .ok (.aload_n 0, 1) := by decide +kernel
theorem dX1_rowUntil_4 : decode cX1_rowUntil 4 = .ok (.getfield 14, 3) := by decide +kernel
theorem dX1_rowUntil_7 : decode cX1_rowUntil 7 = .ok (.getfield 60, 3) := by decide +kernel
theorem dX1_rowUntil_10 : decode cX1_rowUntil 10 = .ok (.if_icmp .ge 27, 3) := by decide +kernel
theorem dX1_rowUntil_13 : decode cX1_rowUntil 13 = .ok (.aload_n 0, 1) := by decide +kernel
theorem dX1_rowUntil_14 : decode cX1_rowUntil 14 = .ok (.aload_n 0, 1) := by decide +kernel
theorem dX1_rowUntil_15 : decode cX1_rowUntil 15 = .ok (.getfield 14, 3) := by decide +kernel
theorem dX1_rowUntil_18 : decode cX1_rowUntil 18 = .ok (.iload_n 3, 1) := by decide +kernel
theorem dX1_rowUntil_19 : decode cX1_rowUntil 19 = .ok (.invokevirtual 63, 3) := by decide +kernel
theorem dX1_rowUntil_22 : decode cX1_rowUntil 22 = .ok (.iload_n 1, 1) := by decide +kernel
theorem dX1_rowUntil_23 : decode cX1_rowUntil 23 = .ok (.aload_n 0, 1) := by decide +kernel
theorem dX1_rowUntil_24 : decode cX1_rowUntil 24 = .ok (.iload_n 2, 1) := by decide +kernel
theorem dX1_rowUntil_25 : decode cX1_rowUntil 25 = .ok (.invokevirtual 66, 3) := by decide +kernel
theorem dX1_rowUntil_28 : decode cX1_rowUntil 28 = .ok (.ifCond .ne 9, 3) := by decide +kernel
theorem dX1_rowUntil_31 : decode cX1_rowUntil 31 = .ok (.iinc 3 1, 3) := by decide +kernel
theorem dX1_rowUntil_34 : decode cX1_rowUntil 34 = .ok (.goto (-32), 3) := by decide +kernel
theorem dX1_rowUntil_37 : decode cX1_rowUntil 37 = .ok (.iload_n 3, 1) := by decide +kernel
theorem dX1_rowUntil_38 : decode cX1_rowUntil 38 = .ok (.ireturn, 1) := by decide +kernel
set_option maxRecDepth 20000 in
theorem ggX1_rowCount_X2_at : GoodIn wsX1_rowCount wsX2_at := goodIn_r _ [7, 8, 9, 35, 36] (by decide +kernel) (by decide +kernel)
set_option maxRecDepth 20000 in
theorem gX1_rowCount_X2_at : GoodIn wsX1_rowCount (wsV RX1 63 RX2 yX2_at wsX2_at) := goodIn_app (goodIn_of _ (by decide +kernel)) ggX1_rowCount_X2_at
set_option maxRecDepth 20000 in
theorem ggX1_rowCount_X1_relates : GoodIn wsX1_rowCount wsX1_relates := goodIn_r _ [14, 15, 16, 17, 18, 13, 19, 20, 21, 22, 23, 24, 25, 26, 27, 28, 29, 30, 31, 32, 33, 34] (by decide +kernel) (by decide +kernel)
set_option maxRecDepth 20000 in
theorem gX1_rowCount_X1_relates : GoodIn wsX1_rowCount (wsV RX1 66 RX1 yX1_relates wsX1_relates) := goodIn_app (goodIn_of _ (by decide +kernel)) ggX1_rowCount_X1_relates
theorem dX1_rowCount_0 : decode cX1_rowCount 0 = .ok (.iconst 0, 1) := by decide +kernel
theorem dX1_rowCount_1 : decode cX1_rowCount 1 = .ok (.istore_n 3, 1) := by decide +kernel
theorem dX1_rowCount_2 : decode cX1_rowCount 2 = .ok (.iconst 0, 1) := by decide +kernel
theorem dX1_rowCount_3 : decode cX1_rowCount 3 = .ok (.istore 4, 2) := by decide +kernel
theorem dX1_rowCount_5 : decode cX1_rowCount 5 = .ok (.iload 4, 2) := by decide +kernel
theorem dX1_rowCount_7 : decode cX1_rowCount 7 = .ok (.aload_n 0, 1) := by decide +kernel
theorem dX1_rowCount_8 : decode cX1_rowCount 8 = .ok (.getfield 14, 3) := by decide +kernel
theorem dX1_rowCount_11 : decode cX1_rowCount 11 = .ok (.getfield 60, 3) := by decide +kernel
theorem dX1_rowCount_14 : decode cX1_rowCount 14 = .ok (.if_icmp .ge 31, 3) := by decide +kernel
theorem dX1_rowCount_17 : decode cX1_rowCount 17 = .ok (.aload_n 0, 1) := by decide +kernel
theorem dX1_rowCount_18 : decode cX1_rowCount 18 = .ok (.aload_n 0, 1) := by decide +kernel
theorem dX1_rowCount_19 : decode cX1_rowCount 19 = .ok (.getfield 14, 3) := by decide +kernel
theorem dX1_rowCount_22 : decode cX1_rowCount 22 = .ok (.iload 4, 2) := by decide +kernel
theorem dX1_rowCount_24 : decode cX1_rowCount 24 = .ok (.invokevirtual 63, 3) := by decide +kernel
theorem dX1_rowCount_27 : decode cX1_rowCount 27 = .ok (.iload_n 1, 1) := by decide +kernel
theorem dX1_rowCount_28 : decode cX1_rowCount 28 = .ok (.aload_n 0, 1) := by decide +kernel
theorem dX1_rowCount_29 : decode cX1_rowCount 29 = .ok (.iload_n 2, 1) := by decide +kernel
theorem dX1_rowCount_30 : decode cX1_rowCount 30 = .ok (.invokevirtual 66, 3) := by decide +kernel
theorem dX1_rowCount_33 : decode cX1_rowCount 33 = .ok (.ifCond .eq 6, 3) := by decide +kernel
theorem dX1_rowCount_36 : decode cX1_rowCount 36 = .ok (.iinc 3 1, 3) := by decide +kernel
theorem dX1_rowCount_39 : decode cX1_rowCount 39 = .ok (.iinc 4 1, 3) := by decide +kernel
theorem dX1_rowCount_42 : decode cX1_rowCount 42 = .ok (.goto (-37), 3) := by decide +kernel
theorem dX1_rowCount_45 : decode cX1_rowCount 45 = .ok (.iload_n 3, 1) := by decide +kernel
theorem dX1_rowCount_46 : decode cX1_rowCount 46 = .ok (.ireturn, 1) := by decide +kernel
set_option maxRecDepth 20000 in
theorem ggX1_relates_X1_valueOf : GoodIn wsX1_relates wsX1_valueOf := goodIn_r _ [6, 7, 8, 9, 13, 14, 15, 16, 17, 18, 19, 20, 21] (by decide +kernel) (by decide +kernel)
set_option maxRecDepth 20000 in
theorem gX1_relates_X1_valueOf : GoodIn wsX1_relates (wsV RX1 70 RX1 yX1_valueOf wsX1_valueOf) := goodIn_app (goodIn_of _ (by decide +kernel)) ggX1_relates_X1_valueOf
set_option maxRecDepth 20000 in
theorem ggX1_relates_X1_compares : GoodIn wsX1_relates wsX1_compares := goodIn_r _ [12] (by decide +kernel) (by decide +kernel)
set_option maxRecDepth 20000 in
theorem gX1_relates_X1_compares : GoodIn wsX1_relates (va_wsS RX1 74 yX1_compares wsX1_compares) := goodIn_app (goodIn_of _ (by decide +kernel)) ggX1_relates_X1_compares
theorem dX1_relates_0 : decode cX1_relates 0 = .ok (.iload_n 1, 1) := by decide +kernel
theorem dX1_relates_1 : decode cX1_relates 1 = .ok (.ldc 20, 2) := by decide +kernel
theorem dX1_relates_3 : decode cX1_relates 3 = .ok (.if_icmp .eq 10, 3) := by decide +kernel
theorem dX1_relates_6 : decode cX1_relates 6 = .ok (.iload 4, 2) := by decide +kernel
theorem dX1_relates_8 : decode cX1_relates 8 = .ok (.ldc 20, 2) := by decide +kernel
theorem dX1_relates_10 : decode cX1_relates 10 = .ok (.if_icmp .ne 14, 3) := by decide +kernel
theorem dX1_relates_13 : decode cX1_relates 13 = .ok (.iload_n 2, 1) := by decide +kernel
theorem dX1_relates_14 : decode cX1_relates 14 = .ok (.iconst 5, 1) := by decide +kernel
theorem dX1_relates_15 : decode cX1_relates 15 = .ok (.if_icmp .ne 7, 3) := by decide +kernel
theorem dX1_relates_18 : decode cX1_relates 18 = .ok (.iconst 1, 1) := by decide +kernel
theorem dX1_relates_19 : decode cX1_relates 19 = .ok (.goto 4, 3) := by decide +kernel
theorem dX1_relates_22 : decode cX1_relates 22 = .ok (.iconst 0, 1) := by decide +kernel
theorem dX1_relates_23 : decode cX1_relates 23 = .ok (.ireturn, 1) := by decide +kernel
theorem dX1_relates_24 : decode cX1_relates 24 = .ok (.aload_n 0, 1) := by decide +kernel
theorem dX1_relates_25 : decode cX1_relates 25 = .ok (.iload_n 1, 1) := by decide +kernel
theorem dX1_relates_26 : decode cX1_relates 26 = .ok (.invokevirtual 70, 3) := by decide +kernel
theorem dX1_relates_29 : decode cX1_relates 29 = .ok (.iload_n 2, 1) := by decide +kernel
theorem dX1_relates_30 : decode cX1_relates 30 = .ok (.aload_n 3, 1) := by decide +kernel
theorem dX1_relates_31 : decode cX1_relates 31 = .ok (.iload 4, 2) := by decide +kernel
theorem dX1_relates_33 : decode cX1_relates 33 = .ok (.invokevirtual 70, 3) := by decide +kernel
theorem dX1_relates_36 : decode cX1_relates 36 = .ok (.invokestatic 74, 3) := by decide +kernel
theorem dX1_relates_39 : decode cX1_relates 39 = .ok (.ireturn, 1) := by decide +kernel
set_option maxRecDepth 20000 in
theorem ggX1_kindOfTaking_X1_isCut : GoodIn wsX1_kindOfTaking wsX1_isCut := goodIn_r _ [5, 6, 7, 8, 9, 10, 4, 11, 12, 13, 14, 15, 16, 17, 18, 19, 20, 21, 22, 37, 38, 39, 40, 41, 42, 43, 44, 45] (by decide +kernel) (by decide +kernel)
set_option maxRecDepth 20000 in
theorem gX1_kindOfTaking_X1_isCut : GoodIn wsX1_kindOfTaking (wsV RX1 78 RX1 yX1_isCut wsX1_isCut) := goodIn_app (goodIn_of _ (by decide +kernel)) ggX1_kindOfTaking_X1_isCut
set_option maxRecDepth 20000 in
theorem ggX1_kindOfTaking_X1_hasValue : GoodIn wsX1_kindOfTaking wsX1_hasValue := goodIn_r _ [26, 27, 12, 37, 38, 39, 40, 41, 42, 43, 44, 45] (by decide +kernel) (by decide +kernel)
set_option maxRecDepth 20000 in
theorem gX1_kindOfTaking_X1_hasValue : GoodIn wsX1_kindOfTaking (wsV RX1 82 RX1 yX1_hasValue wsX1_hasValue) := goodIn_app (goodIn_of _ (by decide +kernel)) ggX1_kindOfTaking_X1_hasValue
set_option maxRecDepth 20000 in
theorem ggX1_kindOfTaking_X1_isWithinBand : GoodIn wsX1_kindOfTaking wsX1_isWithinBand := goodIn_r _ [31, 27, 32, 13, 14, 15, 4, 16, 17, 18, 19, 33, 34, 35, 36, 37, 38, 39, 40, 41, 42, 43, 44, 45] (by decide +kernel) (by decide +kernel)
set_option maxRecDepth 20000 in
theorem gX1_kindOfTaking_X1_isWithinBand : GoodIn wsX1_kindOfTaking (wsV RX1 86 RX1 yX1_isWithinBand wsX1_isWithinBand) := goodIn_app (goodIn_of _ (by decide +kernel)) ggX1_kindOfTaking_X1_isWithinBand
theorem dX1_kindOfTaking_0 : decode cX1_kindOfTaking 0 = .ok (.aload_n 0, 1) := by decide +kernel
theorem dX1_kindOfTaking_1 : decode cX1_kindOfTaking 1 = .ok (.iload_n 1, 1) := by decide +kernel
theorem dX1_kindOfTaking_2 : decode cX1_kindOfTaking 2 = .ok (.invokevirtual 78, 3) := by decide +kernel
theorem dX1_kindOfTaking_5 : decode cX1_kindOfTaking 5 = .ok (.ifCond .eq 5, 3) := by decide +kernel
theorem dX1_kindOfTaking_8 : decode cX1_kindOfTaking 8 = .ok (.iconst 0, 1) := by decide +kernel
theorem dX1_kindOfTaking_9 : decode cX1_kindOfTaking 9 = .ok (.ireturn, 1) := by decide +kernel
theorem dX1_kindOfTaking_10 : decode cX1_kindOfTaking 10 = .ok (.aload_n 0, 1) := by decide +kernel
theorem dX1_kindOfTaking_11 : decode cX1_kindOfTaking 11 = .ok (.invokevirtual 82, 3) := by decide +kernel
theorem dX1_kindOfTaking_14 : decode cX1_kindOfTaking 14 = .ok (.ifCond .eq 15, 3) := by decide +kernel
theorem dX1_kindOfTaking_17 : decode cX1_kindOfTaking 17 = .ok (.aload_n 0, 1) := by decide +kernel
theorem dX1_kindOfTaking_18 : decode cX1_kindOfTaking 18 = .ok (.iload_n 1, 1) := by decide +kernel
theorem dX1_kindOfTaking_19 : decode cX1_kindOfTaking 19 = .ok (.invokevirtual 86, 3) := by decide +kernel
theorem dX1_kindOfTaking_22 : decode cX1_kindOfTaking 22 = .ok (.ifCond .eq 7, 3) := by decide +kernel
theorem dX1_kindOfTaking_25 : decode cX1_kindOfTaking 25 = .ok (.iconst 1, 1) := by decide +kernel
theorem dX1_kindOfTaking_26 : decode cX1_kindOfTaking 26 = .ok (.goto 4, 3) := by decide +kernel
theorem dX1_kindOfTaking_29 : decode cX1_kindOfTaking 29 = .ok (.iconst 2, 1) := by decide +kernel
theorem dX1_kindOfTaking_30 : decode cX1_kindOfTaking 30 = .ok (.ireturn, 1) := by decide +kernel
set_option maxRecDepth 20000 in
theorem ggX1_isCut_X1_relates : GoodIn wsX1_isCut wsX1_relates := goodIn_r _ [7, 8, 9, 10, 11, 6, 12, 13, 14, 15, 16, 17, 18, 19, 20, 21, 22, 23, 24, 25, 26, 27] (by decide +kernel) (by decide +kernel)
set_option maxRecDepth 20000 in
theorem gX1_isCut_X1_relates : GoodIn wsX1_isCut (wsV RX1 66 RX1 yX1_relates wsX1_relates) := goodIn_app (goodIn_of _ (by decide +kernel)) ggX1_isCut_X1_relates
theorem dX1_isCut_0 : decode cX1_isCut 0 = .ok (.aload_n 0, 1) := by decide +kernel
theorem dX1_isCut_1 : decode cX1_isCut 1 = .ok (.iload_n 1, 1) := by decide +kernel
theorem dX1_isCut_2 : decode cX1_isCut 2 = .ok (.iconst 0, 1) := by decide +kernel
theorem dX1_isCut_3 : decode cX1_isCut 3 = .ok (.aload_n 0, 1) := by decide +kernel
theorem dX1_isCut_4 : decode cX1_isCut 4 = .ok (.aload_n 0, 1) := by decide +kernel
theorem dX1_isCut_5 : decode cX1_isCut 5 = .ok (.getfield 25, 3) := by decide +kernel
theorem dX1_isCut_8 : decode cX1_isCut 8 = .ok (.invokevirtual 66, 3) := by decide +kernel
theorem dX1_isCut_11 : decode cX1_isCut 11 = .ok (.ifCond .ne 17, 3) := by decide +kernel
theorem dX1_isCut_14 : decode cX1_isCut 14 = .ok (.aload_n 0, 1) := by decide +kernel
theorem dX1_isCut_15 : decode cX1_isCut 15 = .ok (.iload_n 1, 1) := by decide +kernel
theorem dX1_isCut_16 : decode cX1_isCut 16 = .ok (.iconst 2, 1) := by decide +kernel
theorem dX1_isCut_17 : decode cX1_isCut 17 = .ok (.aload_n 0, 1) := by decide +kernel
theorem dX1_isCut_18 : decode cX1_isCut 18 = .ok (.aload_n 0, 1) := by decide +kernel
theorem dX1_isCut_19 : decode cX1_isCut 19 = .ok (.getfield 28, 3) := by decide +kernel
theorem dX1_isCut_22 : decode cX1_isCut 22 = .ok (.invokevirtual 66, 3) := by decide +kernel
theorem dX1_isCut_25 : decode cX1_isCut 25 = .ok (.ifCond .eq 7, 3) := by decide +kernel
theorem dX1_isCut_28 : decode cX1_isCut 28 = .ok (.iconst 1, 1) := by decide +kernel
theorem dX1_isCut_29 : decode cX1_isCut 29 = .ok (.goto 4, 3) := by decide +kernel
theorem dX1_isCut_32 : decode cX1_isCut 32 = .ok (.iconst 0, 1) := by decide +kernel
theorem dX1_isCut_33 : decode cX1_isCut 33 = .ok (.ireturn, 1) := by decide +kernel
set_option maxRecDepth 20000 in
theorem ggX1_isWithinBand_X1_valueOf : GoodIn wsX1_isWithinBand wsX1_valueOf := goodIn_r _ [7, 8, 9, 10, 15, 16, 17, 18, 19, 20, 21, 22, 23] (by decide +kernel) (by decide +kernel)
set_option maxRecDepth 20000 in
theorem gX1_isWithinBand_X1_valueOf : GoodIn wsX1_isWithinBand (wsV RX1 70 RX1 yX1_valueOf wsX1_valueOf) := goodIn_app (goodIn_of _ (by decide +kernel)) ggX1_isWithinBand_X1_valueOf
set_option maxRecDepth 20000 in
theorem ggX1_isWithinBand_X1_distance : GoodIn wsX1_isWithinBand wsX1_distance := goodIn_r _ [14, 8, 15, 16, 17, 18, 19, 20, 21, 22, 23] (by decide +kernel) (by decide +kernel)
set_option maxRecDepth 20000 in
theorem gX1_isWithinBand_X1_distance : GoodIn wsX1_isWithinBand (wsV RX1 89 RX1 yX1_distance wsX1_distance) := goodIn_app (goodIn_of _ (by decide +kernel)) ggX1_isWithinBand_X1_distance
theorem dX1_isWithinBand_0 : decode cX1_isWithinBand 0 = .ok (.aload_n 0, 1) := by decide +kernel
theorem dX1_isWithinBand_1 : decode cX1_isWithinBand 1 = .ok (.aload_n 0, 1) := by decide +kernel
theorem dX1_isWithinBand_2 : decode cX1_isWithinBand 2 = .ok (.iload_n 1, 1) := by decide +kernel
theorem dX1_isWithinBand_3 : decode cX1_isWithinBand 3 = .ok (.invokevirtual 70, 3) := by decide +kernel
theorem dX1_isWithinBand_6 : decode cX1_isWithinBand 6 = .ok (.aload_n 0, 1) := by decide +kernel
theorem dX1_isWithinBand_7 : decode cX1_isWithinBand 7 = .ok (.aload_n 0, 1) := by decide +kernel
theorem dX1_isWithinBand_8 : decode cX1_isWithinBand 8 = .ok (.getfield 21, 3) := by decide +kernel
theorem dX1_isWithinBand_11 : decode cX1_isWithinBand 11 = .ok (.invokevirtual 70, 3) := by decide +kernel
theorem dX1_isWithinBand_14 : decode cX1_isWithinBand 14 = .ok (.invokevirtual 89, 3) := by decide +kernel
theorem dX1_isWithinBand_17 : decode cX1_isWithinBand 17 = .ok (.aload_n 0, 1) := by decide +kernel
theorem dX1_isWithinBand_18 : decode cX1_isWithinBand 18 = .ok (.aload_n 0, 1) := by decide +kernel
theorem dX1_isWithinBand_19 : decode cX1_isWithinBand 19 = .ok (.getfield 31, 3) := by decide +kernel
theorem dX1_isWithinBand_22 : decode cX1_isWithinBand 22 = .ok (.invokevirtual 70, 3) := by decide +kernel
theorem dX1_isWithinBand_25 : decode cX1_isWithinBand 25 = .ok (.dcmp .g, 1) := by decide +kernel
theorem dX1_isWithinBand_26 : decode cX1_isWithinBand 26 = .ok (.ifCond .gt 7, 3) := by decide +kernel
theorem dX1_isWithinBand_29 : decode cX1_isWithinBand 29 = .ok (.iconst 1, 1) := by decide +kernel
theorem dX1_isWithinBand_30 : decode cX1_isWithinBand 30 = .ok (.goto 4, 3) := by decide +kernel
theorem dX1_isWithinBand_33 : decode cX1_isWithinBand 33 = .ok (.iconst 0, 1) := by decide +kernel
theorem dX1_isWithinBand_34 : decode cX1_isWithinBand 34 = .ok (.ireturn, 1) := by decide +kernel
set_option maxRecDepth 20000 in
theorem ggX1_putMarks_X1_relates : GoodIn wsX1_putMarks wsX1_relates := goodIn_r _ [8, 2, 9, 10, 11, 7, 12, 13, 14, 15, 16, 17, 18, 19, 20, 21, 22, 23, 24, 25, 26, 27] (by decide +kernel) (by decide +kernel)
set_option maxRecDepth 20000 in
theorem gX1_putMarks_X1_relates : GoodIn wsX1_putMarks (wsV RX1 66 RX1 yX1_relates wsX1_relates) := goodIn_app (goodIn_of _ (by decide +kernel)) ggX1_putMarks_X1_relates
theorem dX1_putMarks_0 : decode cX1_putMarks 0 = .ok (.aload_n 0, 1) := by decide +kernel
theorem dX1_putMarks_1 : decode cX1_putMarks 1 = .ok (.getfield 34, 3) := by decide +kernel
theorem dX1_putMarks_4 : decode cX1_putMarks 4 = .ok (.ldc 20, 2) := by decide +kernel
theorem dX1_putMarks_6 : decode cX1_putMarks 6 = .ok (.if_icmp .eq 17, 3) := by decide +kernel
theorem dX1_putMarks_9 : decode cX1_putMarks 9 = .ok (.aload_n 0, 1) := by decide +kernel
theorem dX1_putMarks_10 : decode cX1_putMarks 10 = .ok (.iload_n 1, 1) := by decide +kernel
theorem dX1_putMarks_11 : decode cX1_putMarks 11 = .ok (.iconst 2, 1) := by decide +kernel
theorem dX1_putMarks_12 : decode cX1_putMarks 12 = .ok (.aload_n 0, 1) := by decide +kernel
theorem dX1_putMarks_13 : decode cX1_putMarks 13 = .ok (.aload_n 0, 1) := by decide +kernel
theorem dX1_putMarks_14 : decode cX1_putMarks 14 = .ok (.getfield 34, 3) := by decide +kernel
theorem dX1_putMarks_17 : decode cX1_putMarks 17 = .ok (.invokevirtual 66, 3) := by decide +kernel
theorem dX1_putMarks_20 : decode cX1_putMarks 20 = .ok (.ifCond .eq 8, 3) := by decide +kernel
theorem dX1_putMarks_23 : decode cX1_putMarks 23 = .ok (.aload_n 0, 1) := by decide +kernel
theorem dX1_putMarks_24 : decode cX1_putMarks 24 = .ok (.iload_n 1, 1) := by decide +kernel
theorem dX1_putMarks_25 : decode cX1_putMarks 25 = .ok (.putfield 34, 3) := by decide +kernel
theorem dX1_putMarks_28 : decode cX1_putMarks 28 = .ok (.aload_n 0, 1) := by decide +kernel
theorem dX1_putMarks_29 : decode cX1_putMarks 29 = .ok (.getfield 37, 3) := by decide +kernel
theorem dX1_putMarks_32 : decode cX1_putMarks 32 = .ok (.ldc 20, 2) := by decide +kernel
theorem dX1_putMarks_34 : decode cX1_putMarks 34 = .ok (.if_icmp .eq 17, 3) := by decide +kernel
theorem dX1_putMarks_37 : decode cX1_putMarks 37 = .ok (.aload_n 0, 1) := by decide +kernel
theorem dX1_putMarks_38 : decode cX1_putMarks 38 = .ok (.iload_n 1, 1) := by decide +kernel
theorem dX1_putMarks_39 : decode cX1_putMarks 39 = .ok (.iconst 0, 1) := by decide +kernel
theorem dX1_putMarks_40 : decode cX1_putMarks 40 = .ok (.aload_n 0, 1) := by decide +kernel
theorem dX1_putMarks_41 : decode cX1_putMarks 41 = .ok (.aload_n 0, 1) := by decide +kernel
theorem dX1_putMarks_42 : decode cX1_putMarks 42 = .ok (.getfield 37, 3) := by decide +kernel
theorem dX1_putMarks_45 : decode cX1_putMarks 45 = .ok (.invokevirtual 66, 3) := by decide +kernel
theorem dX1_putMarks_48 : decode cX1_putMarks 48 = .ok (.ifCond .eq 8, 3) := by decide +kernel
theorem dX1_putMarks_51 : decode cX1_putMarks 51 = .ok (.aload_n 0, 1) := by decide +kernel
theorem dX1_putMarks_52 : decode cX1_putMarks 52 = .ok (.iload_n 1, 1) := by decide +kernel
theorem dX1_putMarks_53 : decode cX1_putMarks 53 = .ok (.putfield 37, 3) := by decide +kernel
theorem dX1_putMarks_56 : decode cX1_putMarks 56 = .ok (.return_, 1) := by decide +kernel
theorem dX1_valueOf_0 : decode cX1_valueOf 0 = .ok (.aload_n 0, 1) := by decide +kernel
theorem dX1_valueOf_1 : decode cX1_valueOf 1 = .ok (.getfield 43, 3) := by decide +kernel
theorem dX1_valueOf_4 : decode cX1_valueOf 4 = .ok (.ifCond .eq 10, 3) := by decide +kernel
theorem dX1_valueOf_7 : decode cX1_valueOf 7 = .ok (.iload_n 1, 1) := by decide +kernel
theorem dX1_valueOf_8 : decode cX1_valueOf 8 = .ok (.i2f, 1) := by decide +kernel
theorem dX1_valueOf_9 : decode cX1_valueOf 9 = .ok (.ldc 93, 2) := by decide +kernel
theorem dX1_valueOf_11 : decode cX1_valueOf 11 = .ok (.fdiv, 1) := by decide +kernel
theorem dX1_valueOf_12 : decode cX1_valueOf 12 = .ok (.f2d, 1) := by decide +kernel
theorem dX1_valueOf_13 : decode cX1_valueOf 13 = .ok (.dreturn, 1) := by decide +kernel
theorem dX1_valueOf_14 : decode cX1_valueOf 14 = .ok (.iload_n 1, 1) := by decide +kernel
theorem dX1_valueOf_15 : decode cX1_valueOf 15 = .ok (.i2d, 1) := by decide +kernel
theorem dX1_valueOf_16 : decode cX1_valueOf 16 = .ok (.ldc2_w 94, 3) := by decide +kernel
theorem dX1_valueOf_19 : decode cX1_valueOf 19 = .ok (.ddiv, 1) := by decide +kernel
theorem dX1_valueOf_20 : decode cX1_valueOf 20 = .ok (.dreturn, 1) := by decide +kernel
theorem dX1_distance_0 : decode cX1_distance 0 = .ok (.dload_n 1, 1) := by decide +kernel
theorem dX1_distance_1 : decode cX1_distance 1 = .ok (.dload_n 3, 1) := by decide +kernel
theorem dX1_distance_2 : decode cX1_distance 2 = .ok (.dcmp .l, 1) := by decide +kernel
theorem dX1_distance_3 : decode cX1_distance 3 = .ok (.ifCond .lt 7, 3) := by decide +kernel
theorem dX1_distance_6 : decode cX1_distance 6 = .ok (.dload_n 1, 1) := by decide +kernel
theorem dX1_distance_7 : decode cX1_distance 7 = .ok (.goto 4, 3) := by decide +kernel
theorem dX1_distance_10 : decode cX1_distance 10 = .ok (.dload_n 3, 1) := by decide +kernel
theorem dX1_distance_11 : decode cX1_distance 11 = .ok (.dstore 5, 2) := by decide +kernel
theorem dX1_distance_13 : decode cX1_distance 13 = .ok (.dload_n 1, 1) := by decide +kernel
theorem dX1_distance_14 : decode cX1_distance 14 = .ok (.dload_n 3, 1) := by decide +kernel
theorem dX1_distance_15 : decode cX1_distance 15 = .ok (.dcmp .l, 1) := by decide +kernel
theorem dX1_distance_16 : decode cX1_distance 16 = .ok (.ifCond .lt 7, 3) := by decide +kernel
theorem dX1_distance_19 : decode cX1_distance 19 = .ok (.dload_n 3, 1) := by decide +kernel
theorem dX1_distance_20 : decode cX1_distance 20 = .ok (.goto 4, 3) := by decide +kernel
theorem dX1_distance_23 : decode cX1_distance 23 = .ok (.dload_n 1, 1) := by decide +kernel
theorem dX1_distance_24 : decode cX1_distance 24 = .ok (.dstore 7, 2) := by decide +kernel
theorem dX1_distance_26 : decode cX1_distance 26 = .ok (.aload_n 0, 1) := by decide +kernel
theorem dX1_distance_27 : decode cX1_distance 27 = .ok (.getfield 43, 3) := by decide +kernel
theorem dX1_distance_30 : decode cX1_distance 30 = .ok (.ifCond .eq 12, 3) := by decide +kernel
theorem dX1_distance_33 : decode cX1_distance 33 = .ok (.dload 5, 2) := by decide +kernel
theorem dX1_distance_35 : decode cX1_distance 35 = .ok (.d2f, 1) := by decide +kernel
theorem dX1_distance_36 : decode cX1_distance 36 = .ok (.dload 7, 2) := by decide +kernel
theorem dX1_distance_38 : decode cX1_distance 38 = .ok (.d2f, 1) := by decide +kernel
theorem dX1_distance_39 : decode cX1_distance 39 = .ok (.fsub, 1) := by decide +kernel
theorem dX1_distance_40 : decode cX1_distance 40 = .ok (.f2d, 1) := by decide +kernel
theorem dX1_distance_41 : decode cX1_distance 41 = .ok (.dreturn, 1) := by decide +kernel
theorem dX1_distance_42 : decode cX1_distance 42 = .ok (.dload 5, 2) := by decide +kernel
theorem dX1_distance_44 : decode cX1_distance 44 = .ok (.dload 7, 2) := by decide +kernel
theorem dX1_distance_46 : decode cX1_distance 46 = .ok (.dsub, 1) := by decide +kernel
theorem dX1_distance_47 : decode cX1_distance 47 = .ok (.dreturn, 1) := by decide +kernel
theorem dX1_compares_0 : decode cX1_compares 0 = .ok (.iload_n 2, 1) := by decide +kernel
theorem dX1_compares_1 : decode cX1_compares 1 = .ok (.tableswitch 95 0 4 #[35, 47, 59, 71, 83], 35) := by decide +kernel
theorem dX1_compares_36 : decode cX1_compares 36 = .ok (.dload_n 0, 1) := by decide +kernel
theorem dX1_compares_37 : decode cX1_compares 37 = .ok (.dload_n 3, 1) := by decide +kernel
theorem dX1_compares_38 : decode cX1_compares 38 = .ok (.dcmp .g, 1) := by decide +kernel
theorem dX1_compares_39 : decode cX1_compares 39 = .ok (.ifCond .ge 7, 3) := by decide +kernel
theorem dX1_compares_42 : decode cX1_compares 42 = .ok (.iconst 1, 1) := by decide +kernel
theorem dX1_compares_43 : decode cX1_compares 43 = .ok (.goto 4, 3) := by decide +kernel
theorem dX1_compares_46 : decode cX1_compares 46 = .ok (.iconst 0, 1) := by decide +kernel
theorem dX1_compares_47 : decode cX1_compares 47 = .ok (.ireturn, 1) := by decide +kernel
theorem dX1_compares_48 : decode cX1_compares 48 = .ok (.dload_n 0, 1) := by decide +kernel
theorem dX1_compares_49 : decode cX1_compares 49 = .ok (.dload_n 3, 1) := by decide +kernel
theorem dX1_compares_50 : decode cX1_compares 50 = .ok (.dcmp .g, 1) := by decide +kernel
theorem dX1_compares_51 : decode cX1_compares 51 = .ok (.ifCond .gt 7, 3) := by decide +kernel
theorem dX1_compares_54 : decode cX1_compares 54 = .ok (.iconst 1, 1) := by decide +kernel
theorem dX1_compares_55 : decode cX1_compares 55 = .ok (.goto 4, 3) := by decide +kernel
theorem dX1_compares_58 : decode cX1_compares 58 = .ok (.iconst 0, 1) := by decide +kernel
theorem dX1_compares_59 : decode cX1_compares 59 = .ok (.ireturn, 1) := by decide +kernel
theorem dX1_compares_60 : decode cX1_compares 60 = .ok (.dload_n 0, 1) := by decide +kernel
theorem dX1_compares_61 : decode cX1_compares 61 = .ok (.dload_n 3, 1) := by decide +kernel
theorem dX1_compares_62 : decode cX1_compares 62 = .ok (.dcmp .l, 1) := by decide +kernel
theorem dX1_compares_63 : decode cX1_compares 63 = .ok (.ifCond .le 7, 3) := by decide +kernel
theorem dX1_compares_66 : decode cX1_compares 66 = .ok (.iconst 1, 1) := by decide +kernel
theorem dX1_compares_67 : decode cX1_compares 67 = .ok (.goto 4, 3) := by decide +kernel
theorem dX1_compares_70 : decode cX1_compares 70 = .ok (.iconst 0, 1) := by decide +kernel
theorem dX1_compares_71 : decode cX1_compares 71 = .ok (.ireturn, 1) := by decide +kernel
theorem dX1_compares_72 : decode cX1_compares 72 = .ok (.dload_n 0, 1) := by decide +kernel
theorem dX1_compares_73 : decode cX1_compares 73 = .ok (.dload_n 3, 1) := by decide +kernel
theorem dX1_compares_74 : decode cX1_compares 74 = .ok (.dcmp .l, 1) := by decide +kernel
theorem dX1_compares_75 : decode cX1_compares 75 = .ok (.ifCond .lt 7, 3) := by decide +kernel
theorem dX1_compares_78 : decode cX1_compares 78 = .ok (.iconst 1, 1) := by decide +kernel
theorem dX1_compares_79 : decode cX1_compares 79 = .ok (.goto 4, 3) := by decide +kernel
theorem dX1_compares_82 : decode cX1_compares 82 = .ok (.iconst 0, 1) := by decide +kernel
theorem dX1_compares_83 : decode cX1_compares 83 = .ok (.ireturn, 1) := by decide +kernel
theorem dX1_compares_84 : decode cX1_compares 84 = .ok (.dload_n 0, 1) := by decide +kernel
theorem dX1_compares_85 : decode cX1_compares 85 = .ok (.dload_n 3, 1) := by decide +kernel
theorem dX1_compares_86 : decode cX1_compares 86 = .ok (.dcmp .l, 1) := by decide +kernel
theorem dX1_compares_87 : decode cX1_compares 87 = .ok (.ifCond .ne 7, 3) := by decide +kernel
theorem dX1_compares_90 : decode cX1_compares 90 = .ok (.iconst 1, 1) := by decide +kernel
theorem dX1_compares_91 : decode cX1_compares 91 = .ok (.goto 4, 3) := by decide +kernel
theorem dX1_compares_94 : decode cX1_compares 94 = .ok (.iconst 0, 1) := by decide +kernel
theorem dX1_compares_95 : decode cX1_compares 95 = .ok (.ireturn, 1) := by decide +kernel
theorem dX1_compares_96 : decode cX1_compares 96 = .ok (.dload_n 0, 1) := by decide +kernel
theorem dX1_compares_97 : decode cX1_compares 97 = .ok (.dload_n 3, 1) := by decide +kernel
theorem dX1_compares_98 : decode cX1_compares 98 = .ok (.dcmp .l, 1) := by decide +kernel
theorem dX1_compares_99 : decode cX1_compares 99 = .ok (.ifCond .eq 7, 3) := by decide +kernel
theorem dX1_compares_102 : decode cX1_compares 102 = .ok (.iconst 1, 1) := by decide +kernel
theorem dX1_compares_103 : decode cX1_compares 103 = .ok (.goto 4, 3) := by decide +kernel
theorem dX1_compares_106 : decode cX1_compares 106 = .ok (.iconst 0, 1) := by decide +kernel
theorem dX1_compares_107 : decode cX1_compares 107 = .ok (.ireturn, 1) := by decide +kernel
theorem dX2_init_0 : decode cX2_init 0 = .ok (.aload_n 0, 1) := by decide +kernel
theorem dX2_init_1 : decode cX2_init 1 = .ok (.invokespecial 3, 3) := by decide +kernel
theorem dX2_init_4 : decode cX2_init 4 = .ok (.aload_n 0, 1) := by decide +kernel
theorem dX2_init_5 : decode cX2_init 5 = .ok (.iconst 0, 1) := by decide +kernel
theorem dX2_init_6 : decode cX2_init 6 = .ok (.putfield 9, 3) := by decide +kernel
theorem dX2_init_9 : decode cX2_init 9 = .ok (.aload_n 0, 1) := by decide +kernel
theorem dX2_init_10 : decode cX2_init 10 = .ok (.iload_n 1, 1) := by decide +kernel
theorem dX2_init_11 : decode cX2_init 11 = .ok (.iconst 0, 1) := by decide +kernel
theorem dX2_init_12 : decode cX2_init 12 = .ok (.invokestatic 15, 3) := by decide +kernel
theorem dX2_init_15 : decode cX2_init 15 = .ok (.newarray .int, 2) := by decide +kernel
theorem dX2_init_17 : decode cX2_init 17 = .ok (.putfield 21, 3) := by decide +kernel
theorem dX2_init_20 : decode cX2_init 20 = .ok (.return_, 1) := by decide +kernel
theorem dX2_push_0 : decode cX2_push 0 = .ok (.aload_n 0, 1) := by decide +kernel
theorem dX2_push_1 : decode cX2_push 1 = .ok (.getfield 21, 3) := by decide +kernel
theorem dX2_push_4 : decode cX2_push 4 = .ok (.arraylength, 1) := by decide +kernel
theorem dX2_push_5 : decode cX2_push 5 = .ok (.iconst 1, 1) := by decide +kernel
theorem dX2_push_6 : decode cX2_push 6 = .ok (.isub, 1) := by decide +kernel
theorem dX2_push_7 : decode cX2_push 7 = .ok (.istore_n 2, 1) := by decide +kernel
theorem dX2_push_8 : decode cX2_push 8 = .ok (.iload_n 2, 1) := by decide +kernel
theorem dX2_push_9 : decode cX2_push 9 = .ok (.ifCond .le 23, 3) := by decide +kernel
theorem dX2_push_12 : decode cX2_push 12 = .ok (.aload_n 0, 1) := by decide +kernel
theorem dX2_push_13 : decode cX2_push 13 = .ok (.getfield 21, 3) := by decide +kernel
theorem dX2_push_16 : decode cX2_push 16 = .ok (.iload_n 2, 1) := by decide +kernel
theorem dX2_push_17 : decode cX2_push 17 = .ok (.aload_n 0, 1) := by decide +kernel
theorem dX2_push_18 : decode cX2_push 18 = .ok (.getfield 21, 3) := by decide +kernel
theorem dX2_push_21 : decode cX2_push 21 = .ok (.iload_n 2, 1) := by decide +kernel
theorem dX2_push_22 : decode cX2_push 22 = .ok (.iconst 1, 1) := by decide +kernel
theorem dX2_push_23 : decode cX2_push 23 = .ok (.isub, 1) := by decide +kernel
theorem dX2_push_24 : decode cX2_push 24 = .ok (.iaload, 1) := by decide +kernel
theorem dX2_push_25 : decode cX2_push 25 = .ok (.iastore, 1) := by decide +kernel
theorem dX2_push_26 : decode cX2_push 26 = .ok (.iinc 2 (-1), 3) := by decide +kernel
theorem dX2_push_29 : decode cX2_push 29 = .ok (.goto (-21), 3) := by decide +kernel
theorem dX2_push_32 : decode cX2_push 32 = .ok (.aload_n 0, 1) := by decide +kernel
theorem dX2_push_33 : decode cX2_push 33 = .ok (.getfield 21, 3) := by decide +kernel
theorem dX2_push_36 : decode cX2_push 36 = .ok (.arraylength, 1) := by decide +kernel
theorem dX2_push_37 : decode cX2_push 37 = .ok (.ifCond .le 10, 3) := by decide +kernel
theorem dX2_push_40 : decode cX2_push 40 = .ok (.aload_n 0, 1) := by decide +kernel
theorem dX2_push_41 : decode cX2_push 41 = .ok (.getfield 21, 3) := by decide +kernel
theorem dX2_push_44 : decode cX2_push 44 = .ok (.iconst 0, 1) := by decide +kernel
theorem dX2_push_45 : decode cX2_push 45 = .ok (.iload_n 1, 1) := by decide +kernel
theorem dX2_push_46 : decode cX2_push 46 = .ok (.iastore, 1) := by decide +kernel
theorem dX2_push_47 : decode cX2_push 47 = .ok (.aload_n 0, 1) := by decide +kernel
theorem dX2_push_48 : decode cX2_push 48 = .ok (.getfield 9, 3) := by decide +kernel
theorem dX2_push_51 : decode cX2_push 51 = .ok (.aload_n 0, 1) := by decide +kernel
theorem dX2_push_52 : decode cX2_push 52 = .ok (.getfield 21, 3) := by decide +kernel
theorem dX2_push_55 : decode cX2_push 55 = .ok (.arraylength, 1) := by decide +kernel
theorem dX2_push_56 : decode cX2_push 56 = .ok (.if_icmp .ge 13, 3) := by decide +kernel
theorem dX2_push_59 : decode cX2_push 59 = .ok (.aload_n 0, 1) := by decide +kernel
theorem dX2_push_60 : decode cX2_push 60 = .ok (.dup, 1) := by decide +kernel
theorem dX2_push_61 : decode cX2_push 61 = .ok (.getfield 9, 3) := by decide +kernel
theorem dX2_push_64 : decode cX2_push 64 = .ok (.iconst 1, 1) := by decide +kernel
theorem dX2_push_65 : decode cX2_push 65 = .ok (.iadd, 1) := by decide +kernel
theorem dX2_push_66 : decode cX2_push 66 = .ok (.putfield 9, 3) := by decide +kernel
theorem dX2_push_69 : decode cX2_push 69 = .ok (.return_, 1) := by decide +kernel
theorem dX2_at_0 : decode cX2_at 0 = .ok (.iload_n 1, 1) := by decide +kernel
theorem dX2_at_1 : decode cX2_at 1 = .ok (.ifCond .lt 29, 3) := by decide +kernel
theorem dX2_at_4 : decode cX2_at 4 = .ok (.iload_n 1, 1) := by decide +kernel
theorem dX2_at_5 : decode cX2_at 5 = .ok (.aload_n 0, 1) := by decide +kernel
theorem dX2_at_6 : decode cX2_at 6 = .ok (.getfield 9, 3) := by decide +kernel
theorem dX2_at_9 : decode cX2_at 9 = .ok (.if_icmp .ge 21, 3) := by decide +kernel
theorem dX2_at_12 : decode cX2_at 12 = .ok (.iload_n 1, 1) := by decide +kernel
theorem dX2_at_13 : decode cX2_at 13 = .ok (.aload_n 0, 1) := by decide +kernel
theorem dX2_at_14 : decode cX2_at 14 = .ok (.getfield 21, 3) := by decide +kernel
theorem dX2_at_17 : decode cX2_at 17 = .ok (.arraylength, 1) := by decide +kernel
theorem dX2_at_18 : decode cX2_at 18 = .ok (.if_icmp .ge 12, 3) := by decide +kernel
theorem dX2_at_21 : decode cX2_at 21 = .ok (.aload_n 0, 1) := by decide +kernel
theorem dX2_at_22 : decode cX2_at 22 = .ok (.getfield 21, 3) := by decide +kernel
theorem dX2_at_25 : decode cX2_at 25 = .ok (.iload_n 1, 1) := by decide +kernel
theorem dX2_at_26 : decode cX2_at 26 = .ok (.iaload, 1) := by decide +kernel
theorem dX2_at_27 : decode cX2_at 27 = .ok (.goto 4, 3) := by decide +kernel
theorem dX2_at_30 : decode cX2_at 30 = .ok (.iconst (-1), 1) := by decide +kernel
theorem dX2_at_31 : decode cX2_at 31 = .ok (.ireturn, 1) := by decide +kernel
theorem dX2_empty_0 : decode cX2_empty 0 = .ok (.aload_n 0, 1) := by decide +kernel
theorem dX2_empty_1 : decode cX2_empty 1 = .ok (.iconst 0, 1) := by decide +kernel
theorem dX2_empty_2 : decode cX2_empty 2 = .ok (.putfield 9, 3) := by decide +kernel
theorem dX2_empty_5 : decode cX2_empty 5 = .ok (.return_, 1) := by decide +kernel
theorem dX3_init_0 : decode cX3_init 0 = .ok (.aload_n 0, 1) := by decide +kernel
theorem dX3_init_1 : decode cX3_init 1 = .ok (.invokespecial 3, 3) := by decide +kernel
theorem dX3_init_4 : decode cX3_init 4 = .ok (.aload_n 0, 1) := by decide +kernel
theorem dX3_init_5 : decode cX3_init 5 = .ok (.bipush 6, 2) := by decide +kernel
theorem dX3_init_7 : decode cX3_init 7 = .ok (.newarray .int, 2) := by decide +kernel
theorem dX3_init_9 : decode cX3_init 9 = .ok (.putfield 9, 3) := by decide +kernel
theorem dX3_init_12 : decode cX3_init 12 = .ok (.aload_n 0, 1) := by decide +kernel
theorem dX3_init_13 : decode cX3_init 13 = .ok (.iconst 0, 1) := by decide +kernel
theorem dX3_init_14 : decode cX3_init 14 = .ok (.putfield 15, 3) := by decide +kernel
theorem dX3_init_17 : decode cX3_init 17 = .ok (.aload_n 0, 1) := by decide +kernel
theorem dX3_init_18 : decode cX3_init 18 = .ok (.iconst 0, 1) := by decide +kernel
theorem dX3_init_19 : decode cX3_init 19 = .ok (.putfield 19, 3) := by decide +kernel
theorem dX3_init_22 : decode cX3_init 22 = .ok (.aload_n 0, 1) := by decide +kernel
theorem dX3_init_23 : decode cX3_init 23 = .ok (.iload_n 1, 1) := by decide +kernel
theorem dX3_init_24 : decode cX3_init 24 = .ok (.putfield 23, 3) := by decide +kernel
theorem dX3_init_27 : decode cX3_init 27 = .ok (.return_, 1) := by decide +kernel
theorem dX3_addPart_0 : decode cX3_addPart 0 = .ok (.aload_n 0, 1) := by decide +kernel
theorem dX3_addPart_1 : decode cX3_addPart 1 = .ok (.getfield 15, 3) := by decide +kernel
theorem dX3_addPart_4 : decode cX3_addPart 4 = .ok (.aload_n 0, 1) := by decide +kernel
theorem dX3_addPart_5 : decode cX3_addPart 5 = .ok (.getfield 9, 3) := by decide +kernel
theorem dX3_addPart_8 : decode cX3_addPart 8 = .ok (.arraylength, 1) := by decide +kernel
theorem dX3_addPart_9 : decode cX3_addPart 9 = .ok (.if_icmp .lt 5, 3) := by decide +kernel
theorem dX3_addPart_12 : decode cX3_addPart 12 = .ok (.iconst 0, 1) := by decide +kernel
theorem dX3_addPart_13 : decode cX3_addPart 13 = .ok (.ireturn, 1) := by decide +kernel
theorem dX3_addPart_14 : decode cX3_addPart 14 = .ok (.aload_n 0, 1) := by decide +kernel
theorem dX3_addPart_15 : decode cX3_addPart 15 = .ok (.getfield 9, 3) := by decide +kernel
theorem dX3_addPart_18 : decode cX3_addPart 18 = .ok (.aload_n 0, 1) := by decide +kernel
theorem dX3_addPart_19 : decode cX3_addPart 19 = .ok (.getfield 15, 3) := by decide +kernel
theorem dX3_addPart_22 : decode cX3_addPart 22 = .ok (.iload_n 1, 1) := by decide +kernel
theorem dX3_addPart_23 : decode cX3_addPart 23 = .ok (.iastore, 1) := by decide +kernel
theorem dX3_addPart_24 : decode cX3_addPart 24 = .ok (.aload_n 0, 1) := by decide +kernel
theorem dX3_addPart_25 : decode cX3_addPart 25 = .ok (.dup, 1) := by decide +kernel
theorem dX3_addPart_26 : decode cX3_addPart 26 = .ok (.getfield 15, 3) := by decide +kernel
theorem dX3_addPart_29 : decode cX3_addPart 29 = .ok (.iconst 1, 1) := by decide +kernel
theorem dX3_addPart_30 : decode cX3_addPart 30 = .ok (.iadd, 1) := by decide +kernel
theorem dX3_addPart_31 : decode cX3_addPart 31 = .ok (.putfield 15, 3) := by decide +kernel
theorem dX3_addPart_34 : decode cX3_addPart 34 = .ok (.iconst 1, 1) := by decide +kernel
theorem dX3_addPart_35 : decode cX3_addPart 35 = .ok (.ireturn, 1) := by decide +kernel
theorem dX3_partAt_0 : decode cX3_partAt 0 = .ok (.iload_n 1, 1) := by decide +kernel
theorem dX3_partAt_1 : decode cX3_partAt 1 = .ok (.ifCond .lt 21, 3) := by decide +kernel
theorem dX3_partAt_4 : decode cX3_partAt 4 = .ok (.iload_n 1, 1) := by decide +kernel
theorem dX3_partAt_5 : decode cX3_partAt 5 = .ok (.aload_n 0, 1) := by decide +kernel
theorem dX3_partAt_6 : decode cX3_partAt 6 = .ok (.getfield 9, 3) := by decide +kernel
theorem dX3_partAt_9 : decode cX3_partAt 9 = .ok (.arraylength, 1) := by decide +kernel
theorem dX3_partAt_10 : decode cX3_partAt 10 = .ok (.if_icmp .ge 12, 3) := by decide +kernel
theorem dX3_partAt_13 : decode cX3_partAt 13 = .ok (.aload_n 0, 1) := by decide +kernel
theorem dX3_partAt_14 : decode cX3_partAt 14 = .ok (.getfield 9, 3) := by decide +kernel
theorem dX3_partAt_17 : decode cX3_partAt 17 = .ok (.iload_n 1, 1) := by decide +kernel
theorem dX3_partAt_18 : decode cX3_partAt 18 = .ok (.iaload, 1) := by decide +kernel
theorem dX3_partAt_19 : decode cX3_partAt 19 = .ok (.goto 4, 3) := by decide +kernel
theorem dX3_partAt_22 : decode cX3_partAt 22 = .ok (.iconst (-1), 1) := by decide +kernel
theorem dX3_partAt_23 : decode cX3_partAt 23 = .ok (.ireturn, 1) := by decide +kernel
set_option maxRecDepth 20000 in
theorem ggX4_init_X2_init : GoodIn wsX4_init wsX2_init := goodIn_r _ [23, 24, 2, 3, 25, 26, 27, 28, 29, 30, 31, 43, 44] (by decide +kernel) (by decide +kernel)
set_option maxRecDepth 20000 in
theorem gX4_init_X2_init : GoodIn wsX4_init (wsX2_init) := ggX4_init_X2_init
theorem dX4_init_0 : decode cX4_init 0 = .ok (.aload_n 0, 1) := by decide +kernel
theorem dX4_init_1 : decode cX4_init 1 = .ok (.invokespecial 1, 3) := by decide +kernel
theorem dX4_init_4 : decode cX4_init 4 = .ok (.aload_n 0, 1) := by decide +kernel
theorem dX4_init_5 : decode cX4_init 5 = .ok (.bipush 16, 2) := by decide +kernel
theorem dX4_init_7 : decode cX4_init 7 = .ok (.anewarray 9, 3) := by decide +kernel
theorem dX4_init_10 : decode cX4_init 10 = .ok (.putfield 11, 3) := by decide +kernel
theorem dX4_init_13 : decode cX4_init 13 = .ok (.aload_n 0, 1) := by decide +kernel
theorem dX4_init_14 : decode cX4_init 14 = .ok (.bipush 24, 2) := by decide +kernel
theorem dX4_init_16 : decode cX4_init 16 = .ok (.anewarray 15, 3) := by decide +kernel
theorem dX4_init_19 : decode cX4_init 19 = .ok (.putfield 17, 3) := by decide +kernel
theorem dX4_init_22 : decode cX4_init 22 = .ok (.aload_n 0, 1) := by decide +kernel
theorem dX4_init_23 : decode cX4_init 23 = .ok (.bipush 8, 2) := by decide +kernel
theorem dX4_init_25 : decode cX4_init 25 = .ok (.anewarray 21, 3) := by decide +kernel
theorem dX4_init_28 : decode cX4_init 28 = .ok (.putfield 23, 3) := by decide +kernel
theorem dX4_init_31 : decode cX4_init 31 = .ok (.aload_n 0, 1) := by decide +kernel
theorem dX4_init_32 : decode cX4_init 32 = .ok (.new 27, 3) := by decide +kernel
theorem dX4_init_35 : decode cX4_init 35 = .ok (.dup, 1) := by decide +kernel
theorem dX4_init_36 : decode cX4_init 36 = .ok (.bipush 20, 2) := by decide +kernel
theorem dX4_init_38 : decode cX4_init 38 = .ok (.invokespecial 29, 3) := by decide +kernel
theorem dX4_init_41 : decode cX4_init 41 = .ok (.putfield 32, 3) := by decide +kernel
theorem dX4_init_44 : decode cX4_init 44 = .ok (.aload_n 0, 1) := by decide +kernel
theorem dX4_init_45 : decode cX4_init 45 = .ok (.new 27, 3) := by decide +kernel
theorem dX4_init_48 : decode cX4_init 48 = .ok (.dup, 1) := by decide +kernel
theorem dX4_init_49 : decode cX4_init 49 = .ok (.bipush 20, 2) := by decide +kernel
theorem dX4_init_51 : decode cX4_init 51 = .ok (.invokespecial 29, 3) := by decide +kernel
theorem dX4_init_54 : decode cX4_init 54 = .ok (.putfield 36, 3) := by decide +kernel
theorem dX4_init_57 : decode cX4_init 57 = .ok (.aload_n 0, 1) := by decide +kernel
theorem dX4_init_58 : decode cX4_init 58 = .ok (.new 27, 3) := by decide +kernel
theorem dX4_init_61 : decode cX4_init 61 = .ok (.dup, 1) := by decide +kernel
theorem dX4_init_62 : decode cX4_init 62 = .ok (.bipush 20, 2) := by decide +kernel
theorem dX4_init_64 : decode cX4_init 64 = .ok (.invokespecial 29, 3) := by decide +kernel
theorem dX4_init_67 : decode cX4_init 67 = .ok (.putfield 39, 3) := by decide +kernel
theorem dX4_init_70 : decode cX4_init 70 = .ok (.aload_n 0, 1) := by decide +kernel
theorem dX4_init_71 : decode cX4_init 71 = .ok (.iconst 0, 1) := by decide +kernel
theorem dX4_init_72 : decode cX4_init 72 = .ok (.putfield 42, 3) := by decide +kernel
theorem dX4_init_75 : decode cX4_init 75 = .ok (.aload_n 0, 1) := by decide +kernel
theorem dX4_init_76 : decode cX4_init 76 = .ok (.iconst 0, 1) := by decide +kernel
theorem dX4_init_77 : decode cX4_init 77 = .ok (.putfield 46, 3) := by decide +kernel
theorem dX4_init_80 : decode cX4_init 80 = .ok (.aload_n 0, 1) := by decide +kernel
theorem dX4_init_81 : decode cX4_init 81 = .ok (.iconst 0, 1) := by decide +kernel
theorem dX4_init_82 : decode cX4_init 82 = .ok (.putfield 49, 3) := by decide +kernel
theorem dX4_init_85 : decode cX4_init 85 = .ok (.aload_n 0, 1) := by decide +kernel
theorem dX4_init_86 : decode cX4_init 86 = .ok (.iconst 0, 1) := by decide +kernel
theorem dX4_init_87 : decode cX4_init 87 = .ok (.putfield 52, 3) := by decide +kernel
theorem dX4_init_90 : decode cX4_init 90 = .ok (.aload_n 0, 1) := by decide +kernel
theorem dX4_init_91 : decode cX4_init 91 = .ok (.iconst 0, 1) := by decide +kernel
theorem dX4_init_92 : decode cX4_init 92 = .ok (.putfield 55, 3) := by decide +kernel
theorem dX4_init_95 : decode cX4_init 95 = .ok (.return_, 1) := by decide +kernel
set_option maxRecDepth 20000 in
theorem ggX4_make_X1_init : GoodIn wsX4_make wsX1_init := goodIn_r _ [7, 8, 9, 10, 11, 12, 13, 14, 15, 16, 17, 18, 19, 20, 21, 22, 23, 24, 25, 26, 27, 28, 29, 30, 31, 32, 33, 34, 55, 56, 46, 47, 48, 49, 50, 51, 52, 53, 54] (by decide +kernel) (by decide +kernel)
set_option maxRecDepth 20000 in
theorem gX4_make_X1_init : GoodIn wsX4_make (wsX1_init) := ggX4_make_X1_init
theorem dX4_make_0 : decode cX4_make 0 = .ok (.iload_n 1, 1) := by decide +kernel
theorem dX4_make_1 : decode cX4_make 1 = .ok (.ifCond .lt 12, 3) := by decide +kernel
theorem dX4_make_4 : decode cX4_make 4 = .ok (.iload_n 1, 1) := by decide +kernel
theorem dX4_make_5 : decode cX4_make 5 = .ok (.aload_n 0, 1) := by decide +kernel
theorem dX4_make_6 : decode cX4_make 6 = .ok (.getfield 11, 3) := by decide +kernel
theorem dX4_make_9 : decode cX4_make 9 = .ok (.arraylength, 1) := by decide +kernel
theorem dX4_make_10 : decode cX4_make 10 = .ok (.if_icmp .lt 6, 3) := by decide +kernel
theorem dX4_make_13 : decode cX4_make 13 = .ok (.bipush (-4), 2) := by decide +kernel
theorem dX4_make_15 : decode cX4_make 15 = .ok (.ireturn, 1) := by decide +kernel
theorem dX4_make_16 : decode cX4_make 16 = .ok (.aload_n 0, 1) := by decide +kernel
theorem dX4_make_17 : decode cX4_make 17 = .ok (.getfield 11, 3) := by decide +kernel
theorem dX4_make_20 : decode cX4_make 20 = .ok (.iload_n 1, 1) := by decide +kernel
theorem dX4_make_21 : decode cX4_make 21 = .ok (.aaload, 1) := by decide +kernel
theorem dX4_make_22 : decode cX4_make 22 = .ok (.ifnull 5, 3) := by decide +kernel
theorem dX4_make_25 : decode cX4_make 25 = .ok (.iconst 0, 1) := by decide +kernel
theorem dX4_make_26 : decode cX4_make 26 = .ok (.ireturn, 1) := by decide +kernel
theorem dX4_make_27 : decode cX4_make 27 = .ok (.aload_n 0, 1) := by decide +kernel
theorem dX4_make_28 : decode cX4_make 28 = .ok (.getfield 11, 3) := by decide +kernel
theorem dX4_make_31 : decode cX4_make 31 = .ok (.iload_n 1, 1) := by decide +kernel
theorem dX4_make_32 : decode cX4_make 32 = .ok (.new 9, 3) := by decide +kernel
theorem dX4_make_35 : decode cX4_make 35 = .ok (.dup, 1) := by decide +kernel
theorem dX4_make_36 : decode cX4_make 36 = .ok (.iload_n 2, 1) := by decide +kernel
theorem dX4_make_37 : decode cX4_make 37 = .ok (.invokespecial 58, 3) := by decide +kernel
theorem dX4_make_40 : decode cX4_make 40 = .ok (.aastore, 1) := by decide +kernel
theorem dX4_make_41 : decode cX4_make 41 = .ok (.iconst 1, 1) := by decide +kernel
theorem dX4_make_42 : decode cX4_make 42 = .ok (.ireturn, 1) := by decide +kernel
set_option maxRecDepth 20000 in
theorem ggX4_limit_X4_isNumber : GoodIn wsX4_limit wsX4_isNumber := goodIn_r _ [4, 5, 6] (by decide +kernel) (by decide +kernel)
set_option maxRecDepth 20000 in
theorem gX4_limit_X4_isNumber : GoodIn wsX4_limit (va_wsS RX4 61 yX4_isNumber wsX4_isNumber) := goodIn_app (goodIn_of _ (by decide +kernel)) ggX4_limit_X4_isNumber
set_option maxRecDepth 20000 in
theorem ggX4_limit_X4_gaugeAt : GoodIn wsX4_limit wsX4_gaugeAt := goodIn_r _ [10, 11, 19, 20, 21, 22, 23, 24, 25, 26, 27, 28, 29] (by decide +kernel) (by decide +kernel)
set_option maxRecDepth 20000 in
theorem gX4_limit_X4_gaugeAt : GoodIn wsX4_limit (wsV RX4 65 RX4 yX4_gaugeAt wsX4_gaugeAt) := goodIn_app (goodIn_of _ (by decide +kernel)) ggX4_limit_X4_gaugeAt
set_option maxRecDepth 20000 in
theorem ggX4_limit_X1_putLimit : GoodIn wsX4_limit wsX1_putLimit := goodIn_r _ [16, 17, 18, 30, 31, 32, 33, 34, 35, 36, 37, 38] (by decide +kernel) (by decide +kernel)
set_option maxRecDepth 20000 in
theorem gX4_limit_X1_putLimit : GoodIn wsX4_limit (wsV RX4 69 RX1 yX1_putLimit wsX1_putLimit) := goodIn_app (goodIn_of _ (by decide +kernel)) ggX4_limit_X1_putLimit
theorem dX4_limit_0 : decode cX4_limit 0 = .ok (.iload_n 3, 1) := by decide +kernel
theorem dX4_limit_1 : decode cX4_limit 1 = .ok (.invokestatic 61, 3) := by decide +kernel
theorem dX4_limit_4 : decode cX4_limit 4 = .ok (.ifCond .ne 6, 3) := by decide +kernel
theorem dX4_limit_7 : decode cX4_limit 7 = .ok (.bipush (-4), 2) := by decide +kernel
theorem dX4_limit_9 : decode cX4_limit 9 = .ok (.ireturn, 1) := by decide +kernel
theorem dX4_limit_10 : decode cX4_limit 10 = .ok (.aload_n 0, 1) := by decide +kernel
theorem dX4_limit_11 : decode cX4_limit 11 = .ok (.iload_n 1, 1) := by decide +kernel
theorem dX4_limit_12 : decode cX4_limit 12 = .ok (.invokevirtual 65, 3) := by decide +kernel
theorem dX4_limit_15 : decode cX4_limit 15 = .ok (.astore 4, 2) := by decide +kernel
theorem dX4_limit_17 : decode cX4_limit 17 = .ok (.aload 4, 2) := by decide +kernel
theorem dX4_limit_19 : decode cX4_limit 19 = .ok (.ifnonnull 6, 3) := by decide +kernel
theorem dX4_limit_22 : decode cX4_limit 22 = .ok (.bipush (-2), 2) := by decide +kernel
theorem dX4_limit_24 : decode cX4_limit 24 = .ok (.ireturn, 1) := by decide +kernel
theorem dX4_limit_25 : decode cX4_limit 25 = .ok (.aload 4, 2) := by decide +kernel
theorem dX4_limit_27 : decode cX4_limit 27 = .ok (.iload_n 2, 1) := by decide +kernel
theorem dX4_limit_28 : decode cX4_limit 28 = .ok (.iload_n 3, 1) := by decide +kernel
theorem dX4_limit_29 : decode cX4_limit 29 = .ok (.invokevirtual 69, 3) := by decide +kernel
theorem dX4_limit_32 : decode cX4_limit 32 = .ok (.iconst 1, 1) := by decide +kernel
theorem dX4_limit_33 : decode cX4_limit 33 = .ok (.ireturn, 1) := by decide +kernel
set_option maxRecDepth 20000 in
theorem ggX4_open_X4_gaugeAt : GoodIn wsX4_open wsX4_gaugeAt := goodIn_r _ [6, 7, 23, 24, 25, 26, 27, 28, 29, 30, 31, 32, 33] (by decide +kernel) (by decide +kernel)
set_option maxRecDepth 20000 in
theorem gX4_open_X4_gaugeAt : GoodIn wsX4_open (wsV RX4 65 RX4 yX4_gaugeAt wsX4_gaugeAt) := goodIn_app (goodIn_of _ (by decide +kernel)) ggX4_open_X4_gaugeAt
set_option maxRecDepth 20000 in
theorem ggX4_open_X1_hasLimit : GoodIn wsX4_open wsX1_hasLimit := goodIn_r _ [12, 13, 14, 15, 34, 35, 36, 37, 38, 39, 40, 41, 42] (by decide +kernel) (by decide +kernel)
set_option maxRecDepth 20000 in
theorem gX4_open_X1_hasLimit : GoodIn wsX4_open (wsV RX4 73 RX1 yX1_hasLimit wsX1_hasLimit) := goodIn_app (goodIn_of _ (by decide +kernel)) ggX4_open_X1_hasLimit
set_option maxRecDepth 20000 in
theorem ggX4_open_X1_putLimit : GoodIn wsX4_open wsX1_putLimit := goodIn_r _ [19, 13, 14, 34, 35, 36, 37, 38, 39, 40, 41, 42] (by decide +kernel) (by decide +kernel)
set_option maxRecDepth 20000 in
theorem gX4_open_X1_putLimit : GoodIn wsX4_open (wsV RX4 69 RX1 yX1_putLimit wsX1_putLimit) := goodIn_app (goodIn_of _ (by decide +kernel)) ggX4_open_X1_putLimit
set_option maxRecDepth 20000 in
theorem ggX4_open_X4_asAnswer : GoodIn wsX4_open wsX4_asAnswer := goodIn_r _ [22] (by decide +kernel) (by decide +kernel)
set_option maxRecDepth 20000 in
theorem gX4_open_X4_asAnswer : GoodIn wsX4_open (va_wsS RX4 78 yX4_asAnswer wsX4_asAnswer) := goodIn_app (goodIn_of _ (by decide +kernel)) ggX4_open_X4_asAnswer
theorem dX4_open_0 : decode cX4_open 0 = .ok (.aload_n 0, 1) := by decide +kernel
theorem dX4_open_1 : decode cX4_open 1 = .ok (.iload_n 1, 1) := by decide +kernel
theorem dX4_open_2 : decode cX4_open 2 = .ok (.invokevirtual 65, 3) := by decide +kernel
theorem dX4_open_5 : decode cX4_open 5 = .ok (.astore_n 3, 1) := by decide +kernel
theorem dX4_open_6 : decode cX4_open 6 = .ok (.aload_n 3, 1) := by decide +kernel
theorem dX4_open_7 : decode cX4_open 7 = .ok (.ifnonnull 6, 3) := by decide +kernel
theorem dX4_open_10 : decode cX4_open 10 = .ok (.bipush (-2), 2) := by decide +kernel
theorem dX4_open_12 : decode cX4_open 12 = .ok (.ireturn, 1) := by decide +kernel
theorem dX4_open_13 : decode cX4_open 13 = .ok (.aload_n 3, 1) := by decide +kernel
theorem dX4_open_14 : decode cX4_open 14 = .ok (.iload_n 2, 1) := by decide +kernel
theorem dX4_open_15 : decode cX4_open 15 = .ok (.invokevirtual 73, 3) := by decide +kernel
theorem dX4_open_18 : decode cX4_open 18 = .ok (.istore 4, 2) := by decide +kernel
theorem dX4_open_20 : decode cX4_open 20 = .ok (.aload_n 3, 1) := by decide +kernel
theorem dX4_open_21 : decode cX4_open 21 = .ok (.iload_n 2, 1) := by decide +kernel
theorem dX4_open_22 : decode cX4_open 22 = .ok (.ldc 77, 2) := by decide +kernel
theorem dX4_open_24 : decode cX4_open 24 = .ok (.invokevirtual 69, 3) := by decide +kernel
theorem dX4_open_27 : decode cX4_open 27 = .ok (.iload 4, 2) := by decide +kernel
theorem dX4_open_29 : decode cX4_open 29 = .ok (.invokestatic 78, 3) := by decide +kernel
theorem dX4_open_32 : decode cX4_open 32 = .ok (.ireturn, 1) := by decide +kernel
set_option maxRecDepth 20000 in
theorem ggX4_band_X4_gaugeAt : GoodIn wsX4_band wsX4_gaugeAt := goodIn_r _ [7, 8, 18, 19, 20, 21, 22, 23, 24, 25, 26, 27, 28] (by decide +kernel) (by decide +kernel)
set_option maxRecDepth 20000 in
theorem gX4_band_X4_gaugeAt : GoodIn wsX4_band (wsV RX4 65 RX4 yX4_gaugeAt wsX4_gaugeAt) := goodIn_app (goodIn_of _ (by decide +kernel)) ggX4_band_X4_gaugeAt
theorem dX4_band_0 : decode cX4_band 0 = .ok (.iload_n 2, 1) := by decide +kernel
theorem dX4_band_1 : decode cX4_band 1 = .ok (.ifCond .lt 9, 3) := by decide +kernel
theorem dX4_band_4 : decode cX4_band 4 = .ok (.iload_n 2, 1) := by decide +kernel
theorem dX4_band_5 : decode cX4_band 5 = .ok (.ldc 82, 2) := by decide +kernel
theorem dX4_band_7 : decode cX4_band 7 = .ok (.if_icmp .le 6, 3) := by decide +kernel
theorem dX4_band_10 : decode cX4_band 10 = .ok (.bipush (-4), 2) := by decide +kernel
theorem dX4_band_12 : decode cX4_band 12 = .ok (.ireturn, 1) := by decide +kernel
theorem dX4_band_13 : decode cX4_band 13 = .ok (.aload_n 0, 1) := by decide +kernel
theorem dX4_band_14 : decode cX4_band 14 = .ok (.iload_n 1, 1) := by decide +kernel
theorem dX4_band_15 : decode cX4_band 15 = .ok (.invokevirtual 65, 3) := by decide +kernel
theorem dX4_band_18 : decode cX4_band 18 = .ok (.astore_n 3, 1) := by decide +kernel
theorem dX4_band_19 : decode cX4_band 19 = .ok (.aload_n 3, 1) := by decide +kernel
theorem dX4_band_20 : decode cX4_band 20 = .ok (.ifnonnull 6, 3) := by decide +kernel
theorem dX4_band_23 : decode cX4_band 23 = .ok (.bipush (-2), 2) := by decide +kernel
theorem dX4_band_25 : decode cX4_band 25 = .ok (.ireturn, 1) := by decide +kernel
theorem dX4_band_26 : decode cX4_band 26 = .ok (.aload_n 3, 1) := by decide +kernel
theorem dX4_band_27 : decode cX4_band 27 = .ok (.iload_n 2, 1) := by decide +kernel
theorem dX4_band_28 : decode cX4_band 28 = .ok (.putfield 83, 3) := by decide +kernel
theorem dX4_band_31 : decode cX4_band 31 = .ok (.iconst 1, 1) := by decide +kernel
theorem dX4_band_32 : decode cX4_band 32 = .ok (.ireturn, 1) := by decide +kernel
set_option maxRecDepth 20000 in
theorem ggX4_take_X4_isNumber : GoodIn wsX4_take wsX4_isNumber := goodIn_r _ [4, 5, 6] (by decide +kernel) (by decide +kernel)
set_option maxRecDepth 20000 in
theorem gX4_take_X4_isNumber : GoodIn wsX4_take (va_wsS RX4 61 yX4_isNumber wsX4_isNumber) := goodIn_app (goodIn_of _ (by decide +kernel)) ggX4_take_X4_isNumber
set_option maxRecDepth 20000 in
theorem ggX4_take_X4_gaugeAt : GoodIn wsX4_take wsX4_gaugeAt := goodIn_r _ [10, 11, 77, 78, 79, 80, 81, 82, 83, 84, 85, 86, 87] (by decide +kernel) (by decide +kernel)
set_option maxRecDepth 20000 in
theorem gX4_take_X4_gaugeAt : GoodIn wsX4_take (wsV RX4 65 RX4 yX4_gaugeAt wsX4_gaugeAt) := goodIn_app (goodIn_of _ (by decide +kernel)) ggX4_take_X4_gaugeAt
set_option maxRecDepth 20000 in
theorem ggX4_take_X1_receive : GoodIn wsX4_take wsX1_receive := goodIn_r _ [16, 17, 18, 19, 20, 21, 22, 15, 23, 24, 25, 26, 27, 28, 29, 30, 31, 32, 33, 34, 35, 36, 37, 38, 39, 40, 41, 42, 43, 44, 45, 46, 47, 48, 49, 50, 51, 52, 53, 54, 55, 56, 57, 58, 59, 60, 61, 62, 63, 64, 65, 66, 67, 68, 69, 88, 89, 90, 91, 92, 93, 94, 95, 96, 97, 98] (by decide +kernel) (by decide +kernel)
set_option maxRecDepth 20000 in
theorem gX4_take_X1_receive : GoodIn wsX4_take (wsV RX4 86 RX1 yX1_receive wsX1_receive) := goodIn_app (goodIn_of _ (by decide +kernel)) ggX4_take_X1_receive
set_option maxRecDepth 20000 in
theorem ggX4_take_X4_countTaking : GoodIn wsX4_take wsX4_countTaking := goodIn_r _ [73, 74, 75, 76, 77, 78, 79, 80, 81, 82, 83, 84, 85, 86, 87] (by decide +kernel) (by decide +kernel)
set_option maxRecDepth 20000 in
theorem gX4_take_X4_countTaking : GoodIn wsX4_take (wsV RX4 90 RX4 yX4_countTaking wsX4_countTaking) := goodIn_app (goodIn_of _ (by decide +kernel)) ggX4_take_X4_countTaking
theorem dX4_take_0 : decode cX4_take 0 = .ok (.iload_n 2, 1) := by decide +kernel
theorem dX4_take_1 : decode cX4_take 1 = .ok (.invokestatic 61, 3) := by decide +kernel
theorem dX4_take_4 : decode cX4_take 4 = .ok (.ifCond .ne 6, 3) := by decide +kernel
theorem dX4_take_7 : decode cX4_take 7 = .ok (.bipush (-4), 2) := by decide +kernel
theorem dX4_take_9 : decode cX4_take 9 = .ok (.ireturn, 1) := by decide +kernel
theorem dX4_take_10 : decode cX4_take 10 = .ok (.aload_n 0, 1) := by decide +kernel
theorem dX4_take_11 : decode cX4_take 11 = .ok (.iload_n 1, 1) := by decide +kernel
theorem dX4_take_12 : decode cX4_take 12 = .ok (.invokevirtual 65, 3) := by decide +kernel
theorem dX4_take_15 : decode cX4_take 15 = .ok (.astore_n 3, 1) := by decide +kernel
theorem dX4_take_16 : decode cX4_take 16 = .ok (.aload_n 3, 1) := by decide +kernel
theorem dX4_take_17 : decode cX4_take 17 = .ok (.ifnonnull 6, 3) := by decide +kernel
theorem dX4_take_20 : decode cX4_take 20 = .ok (.bipush (-2), 2) := by decide +kernel
theorem dX4_take_22 : decode cX4_take 22 = .ok (.ireturn, 1) := by decide +kernel
theorem dX4_take_23 : decode cX4_take 23 = .ok (.aload_n 3, 1) := by decide +kernel
theorem dX4_take_24 : decode cX4_take 24 = .ok (.iload_n 2, 1) := by decide +kernel
theorem dX4_take_25 : decode cX4_take 25 = .ok (.invokevirtual 86, 3) := by decide +kernel
theorem dX4_take_28 : decode cX4_take 28 = .ok (.istore 4, 2) := by decide +kernel
theorem dX4_take_30 : decode cX4_take 30 = .ok (.aload_n 0, 1) := by decide +kernel
theorem dX4_take_31 : decode cX4_take 31 = .ok (.iload 4, 2) := by decide +kernel
theorem dX4_take_33 : decode cX4_take 33 = .ok (.invokevirtual 90, 3) := by decide +kernel
theorem dX4_take_36 : decode cX4_take 36 = .ok (.iload 4, 2) := by decide +kernel
theorem dX4_take_38 : decode cX4_take 38 = .ok (.ireturn, 1) := by decide +kernel
set_option maxRecDepth 20000 in
theorem ggX4_gap_X4_gaugeAt : GoodIn wsX4_gap wsX4_gaugeAt := goodIn_r _ [5, 6, 29, 30, 31, 32, 33, 34, 35, 36, 37, 38, 39] (by decide +kernel) (by decide +kernel)
set_option maxRecDepth 20000 in
theorem gX4_gap_X4_gaugeAt : GoodIn wsX4_gap (wsV RX4 65 RX4 yX4_gaugeAt wsX4_gaugeAt) := goodIn_app (goodIn_of _ (by decide +kernel)) ggX4_gap_X4_gaugeAt
set_option maxRecDepth 20000 in
theorem ggX4_gap_X1_hasValue : GoodIn wsX4_gap wsX1_hasValue := goodIn_r _ [11, 12, 13, 40, 41, 42, 43, 44, 45, 46, 47, 48] (by decide +kernel) (by decide +kernel)
set_option maxRecDepth 20000 in
theorem gX4_gap_X1_hasValue : GoodIn wsX4_gap (wsV RX4 93 RX1 yX1_hasValue wsX1_hasValue) := goodIn_app (goodIn_of _ (by decide +kernel)) ggX4_gap_X1_hasValue
set_option maxRecDepth 20000 in
theorem ggX4_gap_X1_lose : GoodIn wsX4_gap wsX1_lose := goodIn_r _ [17, 13, 12, 18, 19, 20, 21, 22, 23, 24, 25, 40, 41, 42, 43, 44, 45, 46, 47, 48, 49, 50] (by decide +kernel) (by decide +kernel)
set_option maxRecDepth 20000 in
theorem gX4_gap_X1_lose : GoodIn wsX4_gap (wsV RX4 97 RX1 yX1_lose wsX1_lose) := goodIn_app (goodIn_of _ (by decide +kernel)) ggX4_gap_X1_lose
set_option maxRecDepth 20000 in
theorem ggX4_gap_X4_asAnswer : GoodIn wsX4_gap wsX4_asAnswer := goodIn_r _ [28] (by decide +kernel) (by decide +kernel)
set_option maxRecDepth 20000 in
theorem gX4_gap_X4_asAnswer : GoodIn wsX4_gap (va_wsS RX4 78 yX4_asAnswer wsX4_asAnswer) := goodIn_app (goodIn_of _ (by decide +kernel)) ggX4_gap_X4_asAnswer
theorem dX4_gap_0 : decode cX4_gap 0 = .ok (.aload_n 0, 1) := by decide +kernel
theorem dX4_gap_1 : decode cX4_gap 1 = .ok (.iload_n 1, 1) := by decide +kernel
theorem dX4_gap_2 : decode cX4_gap 2 = .ok (.invokevirtual 65, 3) := by decide +kernel
theorem dX4_gap_5 : decode cX4_gap 5 = .ok (.astore_n 2, 1) := by decide +kernel
theorem dX4_gap_6 : decode cX4_gap 6 = .ok (.aload_n 2, 1) := by decide +kernel
theorem dX4_gap_7 : decode cX4_gap 7 = .ok (.ifnonnull 6, 3) := by decide +kernel
theorem dX4_gap_10 : decode cX4_gap 10 = .ok (.bipush (-2), 2) := by decide +kernel
theorem dX4_gap_12 : decode cX4_gap 12 = .ok (.ireturn, 1) := by decide +kernel
theorem dX4_gap_13 : decode cX4_gap 13 = .ok (.aload_n 2, 1) := by decide +kernel
theorem dX4_gap_14 : decode cX4_gap 14 = .ok (.invokevirtual 93, 3) := by decide +kernel
theorem dX4_gap_17 : decode cX4_gap 17 = .ok (.istore_n 3, 1) := by decide +kernel
theorem dX4_gap_18 : decode cX4_gap 18 = .ok (.aload_n 2, 1) := by decide +kernel
theorem dX4_gap_19 : decode cX4_gap 19 = .ok (.invokevirtual 97, 3) := by decide +kernel
theorem dX4_gap_22 : decode cX4_gap 22 = .ok (.iload_n 3, 1) := by decide +kernel
theorem dX4_gap_23 : decode cX4_gap 23 = .ok (.invokestatic 78, 3) := by decide +kernel
theorem dX4_gap_26 : decode cX4_gap 26 = .ok (.ireturn, 1) := by decide +kernel
set_option maxRecDepth 20000 in
theorem ggX4_clear_X4_gaugeAt : GoodIn wsX4_clear wsX4_gaugeAt := goodIn_r _ [5, 6, 22, 23, 24, 25, 26, 27, 28, 29, 30, 31, 32] (by decide +kernel) (by decide +kernel)
set_option maxRecDepth 20000 in
theorem gX4_clear_X4_gaugeAt : GoodIn wsX4_clear (wsV RX4 65 RX4 yX4_gaugeAt wsX4_gaugeAt) := goodIn_app (goodIn_of _ (by decide +kernel)) ggX4_clear_X4_gaugeAt
set_option maxRecDepth 20000 in
theorem ggX4_clear_X1_forget : GoodIn wsX4_clear wsX1_forget := goodIn_r _ [11, 12, 13, 14, 15, 16, 17, 18, 19, 20, 21, 33, 34, 35, 36, 37, 38, 39, 40, 41, 42, 43] (by decide +kernel) (by decide +kernel)
set_option maxRecDepth 20000 in
theorem gX4_clear_X1_forget : GoodIn wsX4_clear (wsV RX4 100 RX1 yX1_forget wsX1_forget) := goodIn_app (goodIn_of _ (by decide +kernel)) ggX4_clear_X1_forget
theorem dX4_clear_0 : decode cX4_clear 0 = .ok (.aload_n 0, 1) := by decide +kernel
theorem dX4_clear_1 : decode cX4_clear 1 = .ok (.iload_n 1, 1) := by decide +kernel
theorem dX4_clear_2 : decode cX4_clear 2 = .ok (.invokevirtual 65, 3) := by decide +kernel
theorem dX4_clear_5 : decode cX4_clear 5 = .ok (.astore_n 2, 1) := by decide +kernel
theorem dX4_clear_6 : decode cX4_clear 6 = .ok (.aload_n 2, 1) := by decide +kernel
theorem dX4_clear_7 : decode cX4_clear 7 = .ok (.ifnonnull 6, 3) := by decide +kernel
theorem dX4_clear_10 : decode cX4_clear 10 = .ok (.bipush (-2), 2) := by decide +kernel
theorem dX4_clear_12 : decode cX4_clear 12 = .ok (.ireturn, 1) := by decide +kernel
theorem dX4_clear_13 : decode cX4_clear 13 = .ok (.aload_n 2, 1) := by decide +kernel
theorem dX4_clear_14 : decode cX4_clear 14 = .ok (.invokevirtual 100, 3) := by decide +kernel
theorem dX4_clear_17 : decode cX4_clear 17 = .ok (.iconst 1, 1) := by decide +kernel
theorem dX4_clear_18 : decode cX4_clear 18 = .ok (.ireturn, 1) := by decide +kernel
set_option maxRecDepth 20000 in
theorem ggX4_shown_X4_gaugeAt : GoodIn wsX4_shown wsX4_gaugeAt := goodIn_r _ [7, 8, 18, 19, 20, 21, 22, 23, 24, 25, 26, 27, 28] (by decide +kernel) (by decide +kernel)
set_option maxRecDepth 20000 in
theorem gX4_shown_X4_gaugeAt : GoodIn wsX4_shown (wsV RX4 65 RX4 yX4_gaugeAt wsX4_gaugeAt) := goodIn_app (goodIn_of _ (by decide +kernel)) ggX4_shown_X4_gaugeAt
theorem dX4_shown_0 : decode cX4_shown 0 = .ok (.aload_n 0, 1) := by decide +kernel
theorem dX4_shown_1 : decode cX4_shown 1 = .ok (.iload_n 1, 1) := by decide +kernel
theorem dX4_shown_2 : decode cX4_shown 2 = .ok (.invokevirtual 65, 3) := by decide +kernel
theorem dX4_shown_5 : decode cX4_shown 5 = .ok (.astore_n 2, 1) := by decide +kernel
theorem dX4_shown_6 : decode cX4_shown 6 = .ok (.aload_n 2, 1) := by decide +kernel
theorem dX4_shown_7 : decode cX4_shown 7 = .ok (.ifnonnull 8, 3) := by decide +kernel
theorem dX4_shown_10 : decode cX4_shown 10 = .ok (.ldc 77, 2) := by decide +kernel
theorem dX4_shown_12 : decode cX4_shown 12 = .ok (.goto 7, 3) := by decide +kernel
theorem dX4_shown_15 : decode cX4_shown 15 = .ok (.aload_n 2, 1) := by decide +kernel
theorem dX4_shown_16 : decode cX4_shown 16 = .ok (.getfield 103, 3) := by decide +kernel
theorem dX4_shown_19 : decode cX4_shown 19 = .ok (.ireturn, 1) := by decide +kernel
set_option maxRecDepth 20000 in
theorem ggX4_mark_X4_gaugeAt : GoodIn wsX4_mark wsX4_gaugeAt := goodIn_r _ [8, 9, 19, 20, 21, 22, 23, 24, 25, 26, 27, 28, 29] (by decide +kernel) (by decide +kernel)
set_option maxRecDepth 20000 in
theorem gX4_mark_X4_gaugeAt : GoodIn wsX4_mark (wsV RX4 65 RX4 yX4_gaugeAt wsX4_gaugeAt) := goodIn_app (goodIn_of _ (by decide +kernel)) ggX4_mark_X4_gaugeAt
theorem dX4_mark_0 : decode cX4_mark 0 = .ok (.aload_n 0, 1) := by decide +kernel
theorem dX4_mark_1 : decode cX4_mark 1 = .ok (.iload_n 1, 1) := by decide +kernel
theorem dX4_mark_2 : decode cX4_mark 2 = .ok (.invokevirtual 65, 3) := by decide +kernel
theorem dX4_mark_5 : decode cX4_mark 5 = .ok (.astore_n 3, 1) := by decide +kernel
theorem dX4_mark_6 : decode cX4_mark 6 = .ok (.aload_n 3, 1) := by decide +kernel
theorem dX4_mark_7 : decode cX4_mark 7 = .ok (.ifnonnull 6, 3) := by decide +kernel
theorem dX4_mark_10 : decode cX4_mark 10 = .ok (.ldc 77, 2) := by decide +kernel
theorem dX4_mark_12 : decode cX4_mark 12 = .ok (.ireturn, 1) := by decide +kernel
theorem dX4_mark_13 : decode cX4_mark 13 = .ok (.iload_n 2, 1) := by decide +kernel
theorem dX4_mark_14 : decode cX4_mark 14 = .ok (.ifCond .eq 10, 3) := by decide +kernel
theorem dX4_mark_17 : decode cX4_mark 17 = .ok (.aload_n 3, 1) := by decide +kernel
theorem dX4_mark_18 : decode cX4_mark 18 = .ok (.getfield 106, 3) := by decide +kernel
theorem dX4_mark_21 : decode cX4_mark 21 = .ok (.goto 7, 3) := by decide +kernel
theorem dX4_mark_24 : decode cX4_mark 24 = .ok (.aload_n 3, 1) := by decide +kernel
theorem dX4_mark_25 : decode cX4_mark 25 = .ok (.getfield 109, 3) := by decide +kernel
theorem dX4_mark_28 : decode cX4_mark 28 = .ok (.ireturn, 1) := by decide +kernel
set_option maxRecDepth 20000 in
theorem ggX4_stale_X4_gaugeAt : GoodIn wsX4_stale wsX4_gaugeAt := goodIn_r _ [6, 7, 17, 18, 19, 20, 21, 22, 23, 24, 25, 26, 27] (by decide +kernel) (by decide +kernel)
set_option maxRecDepth 20000 in
theorem gX4_stale_X4_gaugeAt : GoodIn wsX4_stale (wsV RX4 65 RX4 yX4_gaugeAt wsX4_gaugeAt) := goodIn_app (goodIn_of _ (by decide +kernel)) ggX4_stale_X4_gaugeAt
theorem dX4_stale_0 : decode cX4_stale 0 = .ok (.aload_n 0, 1) := by decide +kernel
theorem dX4_stale_1 : decode cX4_stale 1 = .ok (.iload_n 1, 1) := by decide +kernel
theorem dX4_stale_2 : decode cX4_stale 2 = .ok (.invokevirtual 65, 3) := by decide +kernel
theorem dX4_stale_5 : decode cX4_stale 5 = .ok (.astore_n 2, 1) := by decide +kernel
theorem dX4_stale_6 : decode cX4_stale 6 = .ok (.aload_n 2, 1) := by decide +kernel
theorem dX4_stale_7 : decode cX4_stale 7 = .ok (.ifnonnull 8, 3) := by decide +kernel
theorem dX4_stale_10 : decode cX4_stale 10 = .ok (.bipush (-2), 2) := by decide +kernel
theorem dX4_stale_12 : decode cX4_stale 12 = .ok (.goto 7, 3) := by decide +kernel
theorem dX4_stale_15 : decode cX4_stale 15 = .ok (.aload_n 2, 1) := by decide +kernel
theorem dX4_stale_16 : decode cX4_stale 16 = .ok (.getfield 112, 3) := by decide +kernel
theorem dX4_stale_19 : decode cX4_stale 19 = .ok (.ireturn, 1) := by decide +kernel
set_option maxRecDepth 20000 in
theorem ggX4_stands_X4_isRelation : GoodIn wsX4_stands wsX4_isRelation := goodIn_r _ [5] (by decide +kernel) (by decide +kernel)
set_option maxRecDepth 20000 in
theorem gX4_stands_X4_isRelation : GoodIn wsX4_stands (va_wsS RX4 115 yX4_isRelation wsX4_isRelation) := goodIn_app (goodIn_of _ (by decide +kernel)) ggX4_stands_X4_isRelation
set_option maxRecDepth 20000 in
theorem ggX4_stands_X4_gaugeAt : GoodIn wsX4_stands wsX4_gaugeAt := goodIn_r _ [9, 10, 39, 40, 41, 42, 43, 44, 45, 46, 47, 48, 49] (by decide +kernel) (by decide +kernel)
set_option maxRecDepth 20000 in
theorem gX4_stands_X4_gaugeAt : GoodIn wsX4_stands (wsV RX4 65 RX4 yX4_gaugeAt wsX4_gaugeAt) := goodIn_app (goodIn_of _ (by decide +kernel)) ggX4_stands_X4_gaugeAt
set_option maxRecDepth 20000 in
theorem ggX4_stands_X1_relates : GoodIn wsX4_stands wsX1_relates := goodIn_r _ [15, 16, 17, 18, 19, 14, 20, 21, 22, 23, 24, 25, 26, 30, 31, 32, 33, 34, 35, 36, 37, 38] (by decide +kernel) (by decide +kernel)
set_option maxRecDepth 20000 in
theorem gX4_stands_X1_relates : GoodIn wsX4_stands (wsV RX4 118 RX1 yX1_relates wsX1_relates) := goodIn_app (goodIn_of _ (by decide +kernel)) ggX4_stands_X1_relates
set_option maxRecDepth 20000 in
theorem ggX4_stands_X4_asAnswer : GoodIn wsX4_stands wsX4_asAnswer := goodIn_r _ [29] (by decide +kernel) (by decide +kernel)
set_option maxRecDepth 20000 in
theorem gX4_stands_X4_asAnswer : GoodIn wsX4_stands (va_wsS RX4 78 yX4_asAnswer wsX4_asAnswer) := goodIn_app (goodIn_of _ (by decide +kernel)) ggX4_stands_X4_asAnswer
theorem dX4_stands_0 : decode cX4_stands 0 = .ok (.iload_n 2, 1) := by decide +kernel
theorem dX4_stands_1 : decode cX4_stands 1 = .ok (.invokestatic 115, 3) := by decide +kernel
theorem dX4_stands_4 : decode cX4_stands 4 = .ok (.ifCond .ne 6, 3) := by decide +kernel
theorem dX4_stands_7 : decode cX4_stands 7 = .ok (.bipush (-4), 2) := by decide +kernel
theorem dX4_stands_9 : decode cX4_stands 9 = .ok (.ireturn, 1) := by decide +kernel
theorem dX4_stands_10 : decode cX4_stands 10 = .ok (.aload_n 0, 1) := by decide +kernel
theorem dX4_stands_11 : decode cX4_stands 11 = .ok (.iload_n 1, 1) := by decide +kernel
theorem dX4_stands_12 : decode cX4_stands 12 = .ok (.invokevirtual 65, 3) := by decide +kernel
theorem dX4_stands_15 : decode cX4_stands 15 = .ok (.astore 4, 2) := by decide +kernel
theorem dX4_stands_17 : decode cX4_stands 17 = .ok (.aload_n 0, 1) := by decide +kernel
theorem dX4_stands_18 : decode cX4_stands 18 = .ok (.iload_n 3, 1) := by decide +kernel
theorem dX4_stands_19 : decode cX4_stands 19 = .ok (.invokevirtual 65, 3) := by decide +kernel
theorem dX4_stands_22 : decode cX4_stands 22 = .ok (.astore 5, 2) := by decide +kernel
theorem dX4_stands_24 : decode cX4_stands 24 = .ok (.aload 4, 2) := by decide +kernel
theorem dX4_stands_26 : decode cX4_stands 26 = .ok (.ifnull 8, 3) := by decide +kernel
theorem dX4_stands_29 : decode cX4_stands 29 = .ok (.aload 5, 2) := by decide +kernel
theorem dX4_stands_31 : decode cX4_stands 31 = .ok (.ifnonnull 6, 3) := by decide +kernel
theorem dX4_stands_34 : decode cX4_stands 34 = .ok (.bipush (-2), 2) := by decide +kernel
theorem dX4_stands_36 : decode cX4_stands 36 = .ok (.ireturn, 1) := by decide +kernel
theorem dX4_stands_37 : decode cX4_stands 37 = .ok (.aload 4, 2) := by decide +kernel
theorem dX4_stands_39 : decode cX4_stands 39 = .ok (.aload 4, 2) := by decide +kernel
theorem dX4_stands_41 : decode cX4_stands 41 = .ok (.getfield 103, 3) := by decide +kernel
theorem dX4_stands_44 : decode cX4_stands 44 = .ok (.iload_n 2, 1) := by decide +kernel
theorem dX4_stands_45 : decode cX4_stands 45 = .ok (.aload 5, 2) := by decide +kernel
theorem dX4_stands_47 : decode cX4_stands 47 = .ok (.aload 5, 2) := by decide +kernel
theorem dX4_stands_49 : decode cX4_stands 49 = .ok (.getfield 103, 3) := by decide +kernel
theorem dX4_stands_52 : decode cX4_stands 52 = .ok (.invokevirtual 118, 3) := by decide +kernel
theorem dX4_stands_55 : decode cX4_stands 55 = .ok (.invokestatic 78, 3) := by decide +kernel
theorem dX4_stands_58 : decode cX4_stands 58 = .ok (.ireturn, 1) := by decide +kernel
set_option maxRecDepth 20000 in
theorem ggX4_between_X4_isConditionNumber : GoodIn wsX4_between wsX4_isConditionNumber := goodIn_r _ [10, 1, 30, 31, 32, 33, 34, 35, 36, 37, 38, 39, 40] (by decide +kernel) (by decide +kernel)
set_option maxRecDepth 20000 in
theorem gX4_between_X4_isConditionNumber : GoodIn wsX4_between (wsV RX4 122 RX4 yX4_isConditionNumber wsX4_isConditionNumber) := goodIn_app (goodIn_of _ (by decide +kernel)) ggX4_between_X4_isConditionNumber
set_option maxRecDepth 20000 in
theorem ggX4_between_X4_isRelation : GoodIn wsX4_between wsX4_isRelation := goodIn_r _ [13] (by decide +kernel) (by decide +kernel)
set_option maxRecDepth 20000 in
theorem gX4_between_X4_isRelation : GoodIn wsX4_between (va_wsS RX4 115 yX4_isRelation wsX4_isRelation) := goodIn_app (goodIn_of _ (by decide +kernel)) ggX4_between_X4_isRelation
set_option maxRecDepth 20000 in
theorem ggX4_between_X4_gaugeAt : GoodIn wsX4_between wsX4_gaugeAt := goodIn_r _ [17, 18, 30, 31, 32, 33, 34, 35, 36, 37, 38, 39, 40] (by decide +kernel) (by decide +kernel)
set_option maxRecDepth 20000 in
theorem gX4_between_X4_gaugeAt : GoodIn wsX4_between (wsV RX4 65 RX4 yX4_gaugeAt wsX4_gaugeAt) := goodIn_app (goodIn_of _ (by decide +kernel)) ggX4_between_X4_gaugeAt
set_option maxRecDepth 20000 in
theorem ggX4_between_X0_init : GoodIn wsX4_between wsX0_init := goodIn_r _ [21, 22, 23, 24, 25, 26, 27, 28, 29, 41, 42, 43, 44, 45] (by decide +kernel) (by decide +kernel)
set_option maxRecDepth 20000 in
theorem gX4_between_X0_init : GoodIn wsX4_between (wsX0_init) := ggX4_between_X0_init
theorem dX4_between_0 : decode cX4_between 0 = .ok (.aload_n 0, 1) := by decide +kernel
theorem dX4_between_1 : decode cX4_between 1 = .ok (.iload_n 1, 1) := by decide +kernel
theorem dX4_between_2 : decode cX4_between 2 = .ok (.invokevirtual 122, 3) := by decide +kernel
theorem dX4_between_5 : decode cX4_between 5 = .ok (.ifCond .eq 10, 3) := by decide +kernel
theorem dX4_between_8 : decode cX4_between 8 = .ok (.iload_n 2, 1) := by decide +kernel
theorem dX4_between_9 : decode cX4_between 9 = .ok (.invokestatic 115, 3) := by decide +kernel
theorem dX4_between_12 : decode cX4_between 12 = .ok (.ifCond .ne 6, 3) := by decide +kernel
theorem dX4_between_15 : decode cX4_between 15 = .ok (.bipush (-4), 2) := by decide +kernel
theorem dX4_between_17 : decode cX4_between 17 = .ok (.ireturn, 1) := by decide +kernel
theorem dX4_between_18 : decode cX4_between 18 = .ok (.aload_n 0, 1) := by decide +kernel
theorem dX4_between_19 : decode cX4_between 19 = .ok (.iload_n 3, 1) := by decide +kernel
theorem dX4_between_20 : decode cX4_between 20 = .ok (.invokevirtual 65, 3) := by decide +kernel
theorem dX4_between_23 : decode cX4_between 23 = .ok (.astore 6, 2) := by decide +kernel
theorem dX4_between_25 : decode cX4_between 25 = .ok (.aload_n 0, 1) := by decide +kernel
theorem dX4_between_26 : decode cX4_between 26 = .ok (.iload 4, 2) := by decide +kernel
theorem dX4_between_28 : decode cX4_between 28 = .ok (.invokevirtual 65, 3) := by decide +kernel
theorem dX4_between_31 : decode cX4_between 31 = .ok (.astore 7, 2) := by decide +kernel
theorem dX4_between_33 : decode cX4_between 33 = .ok (.aload 6, 2) := by decide +kernel
theorem dX4_between_35 : decode cX4_between 35 = .ok (.ifnull 8, 3) := by decide +kernel
theorem dX4_between_38 : decode cX4_between 38 = .ok (.aload 7, 2) := by decide +kernel
theorem dX4_between_40 : decode cX4_between 40 = .ok (.ifnonnull 6, 3) := by decide +kernel
theorem dX4_between_43 : decode cX4_between 43 = .ok (.bipush (-2), 2) := by decide +kernel
theorem dX4_between_45 : decode cX4_between 45 = .ok (.ireturn, 1) := by decide +kernel
theorem dX4_between_46 : decode cX4_between 46 = .ok (.aload_n 0, 1) := by decide +kernel
theorem dX4_between_47 : decode cX4_between 47 = .ok (.getfield 17, 3) := by decide +kernel
theorem dX4_between_50 : decode cX4_between 50 = .ok (.iload_n 1, 1) := by decide +kernel
theorem dX4_between_51 : decode cX4_between 51 = .ok (.new 15, 3) := by decide +kernel
theorem dX4_between_54 : decode cX4_between 54 = .ok (.dup, 1) := by decide +kernel
theorem dX4_between_55 : decode cX4_between 55 = .ok (.iload_n 2, 1) := by decide +kernel
theorem dX4_between_56 : decode cX4_between 56 = .ok (.aload 6, 2) := by decide +kernel
theorem dX4_between_58 : decode cX4_between 58 = .ok (.aload 7, 2) := by decide +kernel
theorem dX4_between_60 : decode cX4_between 60 = .ok (.ldc 77, 2) := by decide +kernel
theorem dX4_between_62 : decode cX4_between 62 = .ok (.iload 5, 2) := by decide +kernel
theorem dX4_between_64 : decode cX4_between 64 = .ok (.invokespecial 125, 3) := by decide +kernel
theorem dX4_between_67 : decode cX4_between 67 = .ok (.aastore, 1) := by decide +kernel
theorem dX4_between_68 : decode cX4_between 68 = .ok (.iconst 1, 1) := by decide +kernel
theorem dX4_between_69 : decode cX4_between 69 = .ok (.ireturn, 1) := by decide +kernel
set_option maxRecDepth 20000 in
theorem ggX4_level_X4_isConditionNumber : GoodIn wsX4_level wsX4_isConditionNumber := goodIn_r _ [9, 1, 34, 35, 36, 37, 38, 39, 40, 41, 42, 43, 44] (by decide +kernel) (by decide +kernel)
set_option maxRecDepth 20000 in
theorem gX4_level_X4_isConditionNumber : GoodIn wsX4_level (wsV RX4 122 RX4 yX4_isConditionNumber wsX4_isConditionNumber) := goodIn_app (goodIn_of _ (by decide +kernel)) ggX4_level_X4_isConditionNumber
set_option maxRecDepth 20000 in
theorem ggX4_level_X4_isRelation : GoodIn wsX4_level wsX4_isRelation := goodIn_r _ [12] (by decide +kernel) (by decide +kernel)
set_option maxRecDepth 20000 in
theorem gX4_level_X4_isRelation : GoodIn wsX4_level (va_wsS RX4 115 yX4_isRelation wsX4_isRelation) := goodIn_app (goodIn_of _ (by decide +kernel)) ggX4_level_X4_isRelation
set_option maxRecDepth 20000 in
theorem ggX4_level_X4_isNumber : GoodIn wsX4_level wsX4_isNumber := goodIn_r _ [15, 16, 17] (by decide +kernel) (by decide +kernel)
set_option maxRecDepth 20000 in
theorem gX4_level_X4_isNumber : GoodIn wsX4_level (va_wsS RX4 61 yX4_isNumber wsX4_isNumber) := goodIn_app (goodIn_of _ (by decide +kernel)) ggX4_level_X4_isNumber
set_option maxRecDepth 20000 in
theorem ggX4_level_X4_gaugeAt : GoodIn wsX4_level wsX4_gaugeAt := goodIn_r _ [21, 22, 34, 35, 36, 37, 38, 39, 40, 41, 42, 43, 44] (by decide +kernel) (by decide +kernel)
set_option maxRecDepth 20000 in
theorem gX4_level_X4_gaugeAt : GoodIn wsX4_level (wsV RX4 65 RX4 yX4_gaugeAt wsX4_gaugeAt) := goodIn_app (goodIn_of _ (by decide +kernel)) ggX4_level_X4_gaugeAt
set_option maxRecDepth 20000 in
theorem ggX4_level_X0_init : GoodIn wsX4_level wsX0_init := goodIn_r _ [25, 26, 27, 28, 29, 30, 31, 32, 33, 45, 46, 47, 48, 49] (by decide +kernel) (by decide +kernel)
set_option maxRecDepth 20000 in
theorem gX4_level_X0_init : GoodIn wsX4_level (wsX0_init) := ggX4_level_X0_init
theorem dX4_level_0 : decode cX4_level 0 = .ok (.aload_n 0, 1) := by decide +kernel
theorem dX4_level_1 : decode cX4_level 1 = .ok (.iload_n 1, 1) := by decide +kernel
theorem dX4_level_2 : decode cX4_level 2 = .ok (.invokevirtual 122, 3) := by decide +kernel
theorem dX4_level_5 : decode cX4_level 5 = .ok (.ifCond .eq 18, 3) := by decide +kernel
theorem dX4_level_8 : decode cX4_level 8 = .ok (.iload_n 2, 1) := by decide +kernel
theorem dX4_level_9 : decode cX4_level 9 = .ok (.invokestatic 115, 3) := by decide +kernel
theorem dX4_level_12 : decode cX4_level 12 = .ok (.ifCond .eq 11, 3) := by decide +kernel
theorem dX4_level_15 : decode cX4_level 15 = .ok (.iload 4, 2) := by decide +kernel
theorem dX4_level_17 : decode cX4_level 17 = .ok (.invokestatic 61, 3) := by decide +kernel
theorem dX4_level_20 : decode cX4_level 20 = .ok (.ifCond .ne 6, 3) := by decide +kernel
theorem dX4_level_23 : decode cX4_level 23 = .ok (.bipush (-4), 2) := by decide +kernel
theorem dX4_level_25 : decode cX4_level 25 = .ok (.ireturn, 1) := by decide +kernel
theorem dX4_level_26 : decode cX4_level 26 = .ok (.aload_n 0, 1) := by decide +kernel
theorem dX4_level_27 : decode cX4_level 27 = .ok (.iload_n 3, 1) := by decide +kernel
theorem dX4_level_28 : decode cX4_level 28 = .ok (.invokevirtual 65, 3) := by decide +kernel
theorem dX4_level_31 : decode cX4_level 31 = .ok (.astore 6, 2) := by decide +kernel
theorem dX4_level_33 : decode cX4_level 33 = .ok (.aload 6, 2) := by decide +kernel
theorem dX4_level_35 : decode cX4_level 35 = .ok (.ifnonnull 6, 3) := by decide +kernel
theorem dX4_level_38 : decode cX4_level 38 = .ok (.bipush (-2), 2) := by decide +kernel
theorem dX4_level_40 : decode cX4_level 40 = .ok (.ireturn, 1) := by decide +kernel
theorem dX4_level_41 : decode cX4_level 41 = .ok (.aload_n 0, 1) := by decide +kernel
theorem dX4_level_42 : decode cX4_level 42 = .ok (.getfield 17, 3) := by decide +kernel
theorem dX4_level_45 : decode cX4_level 45 = .ok (.iload_n 1, 1) := by decide +kernel
theorem dX4_level_46 : decode cX4_level 46 = .ok (.new 15, 3) := by decide +kernel
theorem dX4_level_49 : decode cX4_level 49 = .ok (.dup, 1) := by decide +kernel
theorem dX4_level_50 : decode cX4_level 50 = .ok (.iload_n 2, 1) := by decide +kernel
theorem dX4_level_51 : decode cX4_level 51 = .ok (.aload 6, 2) := by decide +kernel
theorem dX4_level_53 : decode cX4_level 53 = .ok (.aload 6, 2) := by decide +kernel
theorem dX4_level_55 : decode cX4_level 55 = .ok (.iload 4, 2) := by decide +kernel
theorem dX4_level_57 : decode cX4_level 57 = .ok (.iload 5, 2) := by decide +kernel
theorem dX4_level_59 : decode cX4_level 59 = .ok (.invokespecial 125, 3) := by decide +kernel
theorem dX4_level_62 : decode cX4_level 62 = .ok (.aastore, 1) := by decide +kernel
theorem dX4_level_63 : decode cX4_level 63 = .ok (.iconst 1, 1) := by decide +kernel
theorem dX4_level_64 : decode cX4_level 64 = .ok (.ireturn, 1) := by decide +kernel
set_option maxRecDepth 20000 in
theorem ggX4_holds_X4_conditionAt : GoodIn wsX4_holds wsX4_conditionAt := goodIn_r _ [5, 6, 7, 8, 9, 4, 10, 42, 43, 44, 45, 46, 47, 48, 49, 50, 51, 52] (by decide +kernel) (by decide +kernel)
set_option maxRecDepth 20000 in
theorem gX4_holds_X4_conditionAt : GoodIn wsX4_holds (wsV RX4 128 RX4 yX4_conditionAt wsX4_conditionAt) := goodIn_app (goodIn_of _ (by decide +kernel)) ggX4_holds_X4_conditionAt
set_option maxRecDepth 20000 in
theorem ggX4_holds_X0_isMet : GoodIn wsX4_holds wsX0_isMet := goodIn_r _ [15, 16, 17, 18, 19, 20, 21, 22, 23, 24, 25, 26, 27, 28, 29, 30, 31, 32, 33, 34, 35, 36, 37, 38, 53, 54, 55, 56, 57, 58, 59, 60, 61, 62, 63, 64, 65, 66] (by decide +kernel) (by decide +kernel)
set_option maxRecDepth 20000 in
theorem gX4_holds_X0_isMet : GoodIn wsX4_holds (wsV RX4 132 RX0 yX0_isMet wsX0_isMet) := goodIn_app (goodIn_of _ (by decide +kernel)) ggX4_holds_X0_isMet
set_option maxRecDepth 20000 in
theorem ggX4_holds_X4_asAnswer : GoodIn wsX4_holds wsX4_asAnswer := goodIn_r _ [41] (by decide +kernel) (by decide +kernel)
set_option maxRecDepth 20000 in
theorem gX4_holds_X4_asAnswer : GoodIn wsX4_holds (va_wsS RX4 78 yX4_asAnswer wsX4_asAnswer) := goodIn_app (goodIn_of _ (by decide +kernel)) ggX4_holds_X4_asAnswer
theorem dX4_holds_0 : decode cX4_holds 0 = .ok (.aload_n 0, 1) := by decide +kernel
theorem dX4_holds_1 : decode cX4_holds 1 = .ok (.iload_n 1, 1) := by decide +kernel
theorem dX4_holds_2 : decode cX4_holds 2 = .ok (.invokevirtual 128, 3) := by decide +kernel
theorem dX4_holds_5 : decode cX4_holds 5 = .ok (.astore_n 2, 1) := by decide +kernel
theorem dX4_holds_6 : decode cX4_holds 6 = .ok (.aload_n 2, 1) := by decide +kernel
theorem dX4_holds_7 : decode cX4_holds 7 = .ok (.ifnonnull 8, 3) := by decide +kernel
theorem dX4_holds_10 : decode cX4_holds 10 = .ok (.bipush (-2), 2) := by decide +kernel
theorem dX4_holds_12 : decode cX4_holds 12 = .ok (.goto 10, 3) := by decide +kernel
theorem dX4_holds_15 : decode cX4_holds 15 = .ok (.aload_n 2, 1) := by decide +kernel
theorem dX4_holds_16 : decode cX4_holds 16 = .ok (.invokevirtual 132, 3) := by decide +kernel
theorem dX4_holds_19 : decode cX4_holds 19 = .ok (.invokestatic 78, 3) := by decide +kernel
theorem dX4_holds_22 : decode cX4_holds 22 = .ok (.ireturn, 1) := by decide +kernel
set_option maxRecDepth 20000 in
theorem ggX4_trip_X3_init : GoodIn wsX4_trip wsX3_init := goodIn_r _ [7, 8, 9, 10, 11, 12, 13, 14, 15, 27, 28, 29, 30] (by decide +kernel) (by decide +kernel)
set_option maxRecDepth 20000 in
theorem gX4_trip_X3_init : GoodIn wsX4_trip (wsX3_init) := ggX4_trip_X3_init
theorem dX4_trip_0 : decode cX4_trip 0 = .ok (.iload_n 1, 1) := by decide +kernel
theorem dX4_trip_1 : decode cX4_trip 1 = .ok (.ifCond .lt 23, 3) := by decide +kernel
theorem dX4_trip_4 : decode cX4_trip 4 = .ok (.iload_n 1, 1) := by decide +kernel
theorem dX4_trip_5 : decode cX4_trip 5 = .ok (.aload_n 0, 1) := by decide +kernel
theorem dX4_trip_6 : decode cX4_trip 6 = .ok (.getfield 23, 3) := by decide +kernel
theorem dX4_trip_9 : decode cX4_trip 9 = .ok (.arraylength, 1) := by decide +kernel
theorem dX4_trip_10 : decode cX4_trip 10 = .ok (.if_icmp .ge 14, 3) := by decide +kernel
theorem dX4_trip_13 : decode cX4_trip 13 = .ok (.iload_n 2, 1) := by decide +kernel
theorem dX4_trip_14 : decode cX4_trip 14 = .ok (.iconst 1, 1) := by decide +kernel
theorem dX4_trip_15 : decode cX4_trip 15 = .ok (.if_icmp .lt 9, 3) := by decide +kernel
theorem dX4_trip_18 : decode cX4_trip 18 = .ok (.iload_n 2, 1) := by decide +kernel
theorem dX4_trip_19 : decode cX4_trip 19 = .ok (.bipush 6, 2) := by decide +kernel
theorem dX4_trip_21 : decode cX4_trip 21 = .ok (.if_icmp .le 6, 3) := by decide +kernel
theorem dX4_trip_24 : decode cX4_trip 24 = .ok (.bipush (-4), 2) := by decide +kernel
theorem dX4_trip_26 : decode cX4_trip 26 = .ok (.ireturn, 1) := by decide +kernel
theorem dX4_trip_27 : decode cX4_trip 27 = .ok (.aload_n 0, 1) := by decide +kernel
theorem dX4_trip_28 : decode cX4_trip 28 = .ok (.getfield 23, 3) := by decide +kernel
theorem dX4_trip_31 : decode cX4_trip 31 = .ok (.iload_n 1, 1) := by decide +kernel
theorem dX4_trip_32 : decode cX4_trip 32 = .ok (.new 21, 3) := by decide +kernel
theorem dX4_trip_35 : decode cX4_trip 35 = .ok (.dup, 1) := by decide +kernel
theorem dX4_trip_36 : decode cX4_trip 36 = .ok (.iload_n 2, 1) := by decide +kernel
theorem dX4_trip_37 : decode cX4_trip 37 = .ok (.invokespecial 135, 3) := by decide +kernel
theorem dX4_trip_40 : decode cX4_trip 40 = .ok (.aastore, 1) := by decide +kernel
theorem dX4_trip_41 : decode cX4_trip 41 = .ok (.iconst 1, 1) := by decide +kernel
theorem dX4_trip_42 : decode cX4_trip 42 = .ok (.ireturn, 1) := by decide +kernel
set_option maxRecDepth 20000 in
theorem ggX4_part_X4_tripAt : GoodIn wsX4_part wsX4_tripAt := goodIn_r _ [6, 7, 28, 29, 30, 31, 32, 33, 34, 35, 36, 37, 38] (by decide +kernel) (by decide +kernel)
set_option maxRecDepth 20000 in
theorem gX4_part_X4_tripAt : GoodIn wsX4_part (wsV RX4 136 RX4 yX4_tripAt wsX4_tripAt) := goodIn_app (goodIn_of _ (by decide +kernel)) ggX4_part_X4_tripAt
set_option maxRecDepth 20000 in
theorem ggX4_part_X4_conditionAt : GoodIn wsX4_part wsX4_conditionAt := goodIn_r _ [11, 12, 13, 14, 15, 5, 16, 28, 29, 30, 31, 32, 33, 34, 35, 36, 37, 38] (by decide +kernel) (by decide +kernel)
set_option maxRecDepth 20000 in
theorem gX4_part_X4_conditionAt : GoodIn wsX4_part (wsV RX4 128 RX4 yX4_conditionAt wsX4_conditionAt) := goodIn_app (goodIn_of _ (by decide +kernel)) ggX4_part_X4_conditionAt
set_option maxRecDepth 20000 in
theorem ggX4_part_X3_addPart : GoodIn wsX4_part wsX3_addPart := goodIn_r _ [21, 22, 23, 24, 25, 26, 27] (by decide +kernel) (by decide +kernel)
set_option maxRecDepth 20000 in
theorem gX4_part_X3_addPart : GoodIn wsX4_part (wsV RX4 140 RX3 yX3_addPart wsX3_addPart) := goodIn_app (goodIn_of _ (by decide +kernel)) ggX4_part_X3_addPart
theorem dX4_part_0 : decode cX4_part 0 = .ok (.aload_n 0, 1) := by decide +kernel
theorem dX4_part_1 : decode cX4_part 1 = .ok (.iload_n 1, 1) := by decide +kernel
theorem dX4_part_2 : decode cX4_part 2 = .ok (.invokevirtual 136, 3) := by decide +kernel
theorem dX4_part_5 : decode cX4_part 5 = .ok (.astore_n 3, 1) := by decide +kernel
theorem dX4_part_6 : decode cX4_part 6 = .ok (.aload_n 3, 1) := by decide +kernel
theorem dX4_part_7 : decode cX4_part 7 = .ok (.ifnull 11, 3) := by decide +kernel
theorem dX4_part_10 : decode cX4_part 10 = .ok (.aload_n 0, 1) := by decide +kernel
theorem dX4_part_11 : decode cX4_part 11 = .ok (.iload_n 2, 1) := by decide +kernel
theorem dX4_part_12 : decode cX4_part 12 = .ok (.invokevirtual 128, 3) := by decide +kernel
theorem dX4_part_15 : decode cX4_part 15 = .ok (.ifnonnull 6, 3) := by decide +kernel
theorem dX4_part_18 : decode cX4_part 18 = .ok (.bipush (-2), 2) := by decide +kernel
theorem dX4_part_20 : decode cX4_part 20 = .ok (.ireturn, 1) := by decide +kernel
theorem dX4_part_21 : decode cX4_part 21 = .ok (.aload_n 3, 1) := by decide +kernel
theorem dX4_part_22 : decode cX4_part 22 = .ok (.iload_n 2, 1) := by decide +kernel
theorem dX4_part_23 : decode cX4_part 23 = .ok (.invokevirtual 140, 3) := by decide +kernel
theorem dX4_part_26 : decode cX4_part 26 = .ok (.ifCond .eq 10, 3) := by decide +kernel
theorem dX4_part_29 : decode cX4_part 29 = .ok (.aload_n 3, 1) := by decide +kernel
theorem dX4_part_30 : decode cX4_part 30 = .ok (.getfield 143, 3) := by decide +kernel
theorem dX4_part_33 : decode cX4_part 33 = .ok (.goto 4, 3) := by decide +kernel
theorem dX4_part_36 : decode cX4_part 36 = .ok (.iconst (-1), 1) := by decide +kernel
theorem dX4_part_37 : decode cX4_part 37 = .ok (.ireturn, 1) := by decide +kernel
set_option maxRecDepth 20000 in
theorem ggX4_scan_X4_ageGauges : GoodIn wsX4_scan wsX4_ageGauges := goodIn_r _ [8, 9, 10, 11, 12, 13, 14, 15, 16, 17, 92, 93, 94, 95, 96, 97, 98, 99, 100, 101, 102, 107, 108, 109, 110, 111, 112, 113, 114, 115] (by decide +kernel) (by decide +kernel)
set_option maxRecDepth 20000 in
theorem gX4_scan_X4_ageGauges : GoodIn wsX4_scan (wsV RX4 146 RX4 yX4_ageGauges wsX4_ageGauges) := goodIn_app (goodIn_of _ (by decide +kernel)) ggX4_scan_X4_ageGauges
set_option maxRecDepth 20000 in
theorem ggX4_scan_X4_isDue : GoodIn wsX4_scan wsX4_isDue := goodIn_r _ [21, 22, 23, 24, 25, 7, 26, 27, 28, 29, 30, 31, 32, 33, 34, 35, 36, 37, 38, 39, 40, 41, 42, 43, 44, 45, 46, 47, 48, 49, 50, 51, 52, 53, 54, 55, 56, 57, 58, 59, 60, 61, 14, 62, 17, 63, 64, 65, 66, 67, 68, 69, 70, 71, 72, 103, 104, 105, 106, 92, 93, 94, 95, 96, 97, 98, 99, 100, 101, 102, 116, 117, 118, 119, 120, 107, 108, 109, 110, 111, 112, 113, 114, 115] (by decide +kernel) (by decide +kernel)
set_option maxRecDepth 20000 in
theorem gX4_scan_X4_isDue : GoodIn wsX4_scan (wsV RX4 153 RX4 yX4_isDue wsX4_isDue) := goodIn_app (goodIn_of _ (by decide +kernel)) ggX4_scan_X4_isDue
set_option maxRecDepth 20000 in
theorem ggX4_scan_X4_firstHolding : GoodIn wsX4_scan wsX4_firstHolding := goodIn_r _ [76, 27, 28, 29, 30, 31, 32, 33, 34, 35, 36, 7, 37, 38, 39, 40, 41, 42, 43, 44, 45, 46, 47, 48, 49, 50, 51, 52, 53, 54, 55, 56, 57, 58, 59, 60, 61, 14, 62, 17, 63, 64, 65, 66, 67, 68, 69, 70, 71, 72, 103, 104, 105, 106, 92, 93, 94, 95, 96, 97, 98, 99, 100, 101, 102, 116, 117, 118, 119, 120, 107, 108, 109, 110, 111, 112, 113, 114, 115] (by decide +kernel) (by decide +kernel)
set_option maxRecDepth 20000 in
theorem gX4_scan_X4_firstHolding : GoodIn wsX4_scan (wsV RX4 157 RX4 yX4_firstHolding wsX4_firstHolding) := goodIn_app (goodIn_of _ (by decide +kernel)) ggX4_scan_X4_firstHolding
set_option maxRecDepth 20000 in
theorem ggX4_scan_X4_keepEvent : GoodIn wsX4_scan wsX4_keepEvent := goodIn_r _ [80, 81, 82, 1, 83, 84, 85, 86, 87, 88, 89, 90, 91, 92, 93, 94, 95, 96, 97, 98, 99, 100, 101, 102, 121, 122] (by decide +kernel) (by decide +kernel)
set_option maxRecDepth 20000 in
theorem gX4_scan_X4_keepEvent : GoodIn wsX4_scan (wsV RX4 161 RX4 yX4_keepEvent wsX4_keepEvent) := goodIn_app (goodIn_of _ (by decide +kernel)) ggX4_scan_X4_keepEvent
theorem dX4_scan_0 : decode cX4_scan 0 = .ok (.aload_n 0, 1) := by decide +kernel
theorem dX4_scan_1 : decode cX4_scan 1 = .ok (.dup, 1) := by decide +kernel
theorem dX4_scan_2 : decode cX4_scan 2 = .ok (.getfield 42, 3) := by decide +kernel
theorem dX4_scan_5 : decode cX4_scan 5 = .ok (.iconst 1, 1) := by decide +kernel
theorem dX4_scan_6 : decode cX4_scan 6 = .ok (.iadd, 1) := by decide +kernel
theorem dX4_scan_7 : decode cX4_scan 7 = .ok (.putfield 42, 3) := by decide +kernel
theorem dX4_scan_10 : decode cX4_scan 10 = .ok (.aload_n 0, 1) := by decide +kernel
theorem dX4_scan_11 : decode cX4_scan 11 = .ok (.invokevirtual 146, 3) := by decide +kernel
theorem dX4_scan_14 : decode cX4_scan 14 = .ok (.iconst 0, 1) := by decide +kernel
theorem dX4_scan_15 : decode cX4_scan 15 = .ok (.istore_n 1, 1) := by decide +kernel
theorem dX4_scan_16 : decode cX4_scan 16 = .ok (.iconst 0, 1) := by decide +kernel
theorem dX4_scan_17 : decode cX4_scan 17 = .ok (.istore_n 2, 1) := by decide +kernel
theorem dX4_scan_18 : decode cX4_scan 18 = .ok (.iload_n 2, 1) := by decide +kernel
theorem dX4_scan_19 : decode cX4_scan 19 = .ok (.aload_n 0, 1) := by decide +kernel
theorem dX4_scan_20 : decode cX4_scan 20 = .ok (.getfield 23, 3) := by decide +kernel
theorem dX4_scan_23 : decode cX4_scan 23 = .ok (.arraylength, 1) := by decide +kernel
theorem dX4_scan_24 : decode cX4_scan 24 = .ok (.if_icmp .ge 53, 3) := by decide +kernel
theorem dX4_scan_27 : decode cX4_scan 27 = .ok (.aload_n 0, 1) := by decide +kernel
theorem dX4_scan_28 : decode cX4_scan 28 = .ok (.getfield 23, 3) := by decide +kernel
theorem dX4_scan_31 : decode cX4_scan 31 = .ok (.iload_n 2, 1) := by decide +kernel
theorem dX4_scan_32 : decode cX4_scan 32 = .ok (.aaload, 1) := by decide +kernel
theorem dX4_scan_33 : decode cX4_scan 33 = .ok (.astore_n 3, 1) := by decide +kernel
theorem dX4_scan_34 : decode cX4_scan 34 = .ok (.aload_n 3, 1) := by decide +kernel
theorem dX4_scan_35 : decode cX4_scan 35 = .ok (.ifnull 36, 3) := by decide +kernel
theorem dX4_scan_38 : decode cX4_scan 38 = .ok (.aload_n 3, 1) := by decide +kernel
theorem dX4_scan_39 : decode cX4_scan 39 = .ok (.getfield 149, 3) := by decide +kernel
theorem dX4_scan_42 : decode cX4_scan 42 = .ok (.ifCond .ne 29, 3) := by decide +kernel
theorem dX4_scan_45 : decode cX4_scan 45 = .ok (.aload_n 0, 1) := by decide +kernel
theorem dX4_scan_46 : decode cX4_scan 46 = .ok (.aload_n 3, 1) := by decide +kernel
theorem dX4_scan_47 : decode cX4_scan 47 = .ok (.invokevirtual 153, 3) := by decide +kernel
theorem dX4_scan_50 : decode cX4_scan 50 = .ok (.ifCond .eq 21, 3) := by decide +kernel
theorem dX4_scan_53 : decode cX4_scan 53 = .ok (.aload_n 3, 1) := by decide +kernel
theorem dX4_scan_54 : decode cX4_scan 54 = .ok (.iconst 1, 1) := by decide +kernel
theorem dX4_scan_55 : decode cX4_scan 55 = .ok (.putfield 149, 3) := by decide +kernel
theorem dX4_scan_58 : decode cX4_scan 58 = .ok (.aload_n 0, 1) := by decide +kernel
theorem dX4_scan_59 : decode cX4_scan 59 = .ok (.iload_n 2, 1) := by decide +kernel
theorem dX4_scan_60 : decode cX4_scan 60 = .ok (.aload_n 0, 1) := by decide +kernel
theorem dX4_scan_61 : decode cX4_scan 61 = .ok (.aload_n 3, 1) := by decide +kernel
theorem dX4_scan_62 : decode cX4_scan 62 = .ok (.invokevirtual 157, 3) := by decide +kernel
theorem dX4_scan_65 : decode cX4_scan 65 = .ok (.invokevirtual 161, 3) := by decide +kernel
theorem dX4_scan_68 : decode cX4_scan 68 = .ok (.iinc 1 1, 3) := by decide +kernel
theorem dX4_scan_71 : decode cX4_scan 71 = .ok (.iinc 2 1, 3) := by decide +kernel
theorem dX4_scan_74 : decode cX4_scan 74 = .ok (.goto (-56), 3) := by decide +kernel
theorem dX4_scan_77 : decode cX4_scan 77 = .ok (.iload_n 1, 1) := by decide +kernel
theorem dX4_scan_78 : decode cX4_scan 78 = .ok (.ireturn, 1) := by decide +kernel
set_option maxRecDepth 20000 in
theorem ggX4_reset_X4_tripAt : GoodIn wsX4_reset wsX4_tripAt := goodIn_r _ [6, 7, 72, 73, 74, 75, 76, 77, 78, 79, 80, 81, 82] (by decide +kernel) (by decide +kernel)
set_option maxRecDepth 20000 in
theorem gX4_reset_X4_tripAt : GoodIn wsX4_reset (wsV RX4 136 RX4 yX4_tripAt wsX4_tripAt) := goodIn_app (goodIn_of _ (by decide +kernel)) ggX4_reset_X4_tripAt
set_option maxRecDepth 20000 in
theorem ggX4_reset_X4_isDue : GoodIn wsX4_reset wsX4_isDue := goodIn_r _ [11, 12, 13, 14, 15, 5, 16, 17, 18, 19, 20, 21, 22, 23, 24, 25, 26, 27, 28, 29, 30, 31, 32, 33, 34, 35, 36, 37, 38, 39, 40, 41, 42, 43, 44, 45, 46, 47, 48, 49, 50, 51, 52, 53, 54, 55, 56, 57, 58, 59, 60, 61, 62, 63, 64, 68, 69, 70, 71, 72, 73, 74, 75, 76, 77, 78, 79, 80, 81, 82, 83, 84, 85, 86, 87, 88, 89, 90, 91, 92, 93, 94, 95, 96] (by decide +kernel) (by decide +kernel)
set_option maxRecDepth 20000 in
theorem gX4_reset_X4_isDue : GoodIn wsX4_reset (wsV RX4 153 RX4 yX4_isDue wsX4_isDue) := goodIn_app (goodIn_of _ (by decide +kernel)) ggX4_reset_X4_isDue
set_option maxRecDepth 20000 in
theorem ggX4_reset_X4_asAnswer : GoodIn wsX4_reset wsX4_asAnswer := goodIn_r _ [67] (by decide +kernel) (by decide +kernel)
set_option maxRecDepth 20000 in
theorem gX4_reset_X4_asAnswer : GoodIn wsX4_reset (va_wsS RX4 78 yX4_asAnswer wsX4_asAnswer) := goodIn_app (goodIn_of _ (by decide +kernel)) ggX4_reset_X4_asAnswer
theorem dX4_reset_0 : decode cX4_reset 0 = .ok (.aload_n 0, 1) := by decide +kernel
theorem dX4_reset_1 : decode cX4_reset 1 = .ok (.iload_n 1, 1) := by decide +kernel
theorem dX4_reset_2 : decode cX4_reset 2 = .ok (.invokevirtual 136, 3) := by decide +kernel
theorem dX4_reset_5 : decode cX4_reset 5 = .ok (.astore_n 2, 1) := by decide +kernel
theorem dX4_reset_6 : decode cX4_reset 6 = .ok (.aload_n 2, 1) := by decide +kernel
theorem dX4_reset_7 : decode cX4_reset 7 = .ok (.ifnonnull 6, 3) := by decide +kernel
theorem dX4_reset_10 : decode cX4_reset 10 = .ok (.bipush (-2), 2) := by decide +kernel
theorem dX4_reset_12 : decode cX4_reset 12 = .ok (.ireturn, 1) := by decide +kernel
theorem dX4_reset_13 : decode cX4_reset 13 = .ok (.aload_n 0, 1) := by decide +kernel
theorem dX4_reset_14 : decode cX4_reset 14 = .ok (.aload_n 2, 1) := by decide +kernel
theorem dX4_reset_15 : decode cX4_reset 15 = .ok (.invokevirtual 153, 3) := by decide +kernel
theorem dX4_reset_18 : decode cX4_reset 18 = .ok (.ifCond .eq 6, 3) := by decide +kernel
theorem dX4_reset_21 : decode cX4_reset 21 = .ok (.bipush (-5), 2) := by decide +kernel
theorem dX4_reset_23 : decode cX4_reset 23 = .ok (.ireturn, 1) := by decide +kernel
theorem dX4_reset_24 : decode cX4_reset 24 = .ok (.aload_n 2, 1) := by decide +kernel
theorem dX4_reset_25 : decode cX4_reset 25 = .ok (.getfield 149, 3) := by decide +kernel
theorem dX4_reset_28 : decode cX4_reset 28 = .ok (.istore_n 3, 1) := by decide +kernel
theorem dX4_reset_29 : decode cX4_reset 29 = .ok (.aload_n 2, 1) := by decide +kernel
theorem dX4_reset_30 : decode cX4_reset 30 = .ok (.iconst 0, 1) := by decide +kernel
theorem dX4_reset_31 : decode cX4_reset 31 = .ok (.putfield 149, 3) := by decide +kernel
theorem dX4_reset_34 : decode cX4_reset 34 = .ok (.iload_n 3, 1) := by decide +kernel
theorem dX4_reset_35 : decode cX4_reset 35 = .ok (.invokestatic 78, 3) := by decide +kernel
theorem dX4_reset_38 : decode cX4_reset 38 = .ok (.ireturn, 1) := by decide +kernel
set_option maxRecDepth 20000 in
theorem ggX4_votes_X4_tripAt : GoodIn wsX4_votes wsX4_tripAt := goodIn_r _ [5, 6, 59, 60, 61, 62, 63, 64, 65, 66, 67, 68, 69] (by decide +kernel) (by decide +kernel)
set_option maxRecDepth 20000 in
theorem gX4_votes_X4_tripAt : GoodIn wsX4_votes (wsV RX4 136 RX4 yX4_tripAt wsX4_tripAt) := goodIn_app (goodIn_of _ (by decide +kernel)) ggX4_votes_X4_tripAt
set_option maxRecDepth 20000 in
theorem ggX4_votes_X4_countHolding : GoodIn wsX4_votes wsX4_countHolding := goodIn_r _ [10, 11, 12, 13, 14, 15, 16, 17, 18, 19, 20, 4, 21, 22, 23, 24, 25, 26, 27, 28, 29, 30, 31, 32, 33, 34, 35, 36, 37, 38, 39, 40, 41, 42, 43, 44, 45, 46, 47, 48, 49, 50, 51, 52, 53, 54, 55, 56, 57, 58, 70, 71, 72, 73, 59, 60, 61, 62, 63, 64, 65, 66, 67, 68, 69, 74, 75, 76, 77, 78, 79, 80, 81, 82, 83, 84, 85, 86, 87] (by decide +kernel) (by decide +kernel)
set_option maxRecDepth 20000 in
theorem gX4_votes_X4_countHolding : GoodIn wsX4_votes (wsV RX4 165 RX4 yX4_countHolding wsX4_countHolding) := goodIn_app (goodIn_of _ (by decide +kernel)) ggX4_votes_X4_countHolding
theorem dX4_votes_0 : decode cX4_votes 0 = .ok (.aload_n 0, 1) := by decide +kernel
theorem dX4_votes_1 : decode cX4_votes 1 = .ok (.iload_n 1, 1) := by decide +kernel
theorem dX4_votes_2 : decode cX4_votes 2 = .ok (.invokevirtual 136, 3) := by decide +kernel
theorem dX4_votes_5 : decode cX4_votes 5 = .ok (.astore_n 2, 1) := by decide +kernel
theorem dX4_votes_6 : decode cX4_votes 6 = .ok (.aload_n 2, 1) := by decide +kernel
theorem dX4_votes_7 : decode cX4_votes 7 = .ok (.ifnonnull 8, 3) := by decide +kernel
theorem dX4_votes_10 : decode cX4_votes 10 = .ok (.bipush (-2), 2) := by decide +kernel
theorem dX4_votes_12 : decode cX4_votes 12 = .ok (.goto 8, 3) := by decide +kernel
theorem dX4_votes_15 : decode cX4_votes 15 = .ok (.aload_n 0, 1) := by decide +kernel
theorem dX4_votes_16 : decode cX4_votes 16 = .ok (.aload_n 2, 1) := by decide +kernel
theorem dX4_votes_17 : decode cX4_votes 17 = .ok (.invokevirtual 165, 3) := by decide +kernel
theorem dX4_votes_20 : decode cX4_votes 20 = .ok (.ireturn, 1) := by decide +kernel
set_option maxRecDepth 20000 in
theorem ggX4_tripped_X4_tripAt : GoodIn wsX4_tripped wsX4_tripAt := goodIn_r _ [6, 7, 15, 16, 17, 18, 19, 20, 21, 22, 23, 24, 25] (by decide +kernel) (by decide +kernel)
set_option maxRecDepth 20000 in
theorem gX4_tripped_X4_tripAt : GoodIn wsX4_tripped (wsV RX4 136 RX4 yX4_tripAt wsX4_tripAt) := goodIn_app (goodIn_of _ (by decide +kernel)) ggX4_tripped_X4_tripAt
set_option maxRecDepth 20000 in
theorem ggX4_tripped_X4_asAnswer : GoodIn wsX4_tripped wsX4_asAnswer := goodIn_r _ [10] (by decide +kernel) (by decide +kernel)
set_option maxRecDepth 20000 in
theorem gX4_tripped_X4_asAnswer : GoodIn wsX4_tripped (va_wsS RX4 78 yX4_asAnswer wsX4_asAnswer) := goodIn_app (goodIn_of _ (by decide +kernel)) ggX4_tripped_X4_asAnswer
theorem dX4_tripped_0 : decode cX4_tripped 0 = .ok (.aload_n 0, 1) := by decide +kernel
theorem dX4_tripped_1 : decode cX4_tripped 1 = .ok (.iload_n 1, 1) := by decide +kernel
theorem dX4_tripped_2 : decode cX4_tripped 2 = .ok (.invokevirtual 136, 3) := by decide +kernel
theorem dX4_tripped_5 : decode cX4_tripped 5 = .ok (.astore_n 2, 1) := by decide +kernel
theorem dX4_tripped_6 : decode cX4_tripped 6 = .ok (.aload_n 2, 1) := by decide +kernel
theorem dX4_tripped_7 : decode cX4_tripped 7 = .ok (.ifnonnull 8, 3) := by decide +kernel
theorem dX4_tripped_10 : decode cX4_tripped 10 = .ok (.bipush (-2), 2) := by decide +kernel
theorem dX4_tripped_12 : decode cX4_tripped 12 = .ok (.goto 10, 3) := by decide +kernel
theorem dX4_tripped_15 : decode cX4_tripped 15 = .ok (.aload_n 2, 1) := by decide +kernel
theorem dX4_tripped_16 : decode cX4_tripped 16 = .ok (.getfield 149, 3) := by decide +kernel
theorem dX4_tripped_19 : decode cX4_tripped 19 = .ok (.invokestatic 78, 3) := by decide +kernel
theorem dX4_tripped_22 : decode cX4_tripped 22 = .ok (.ireturn, 1) := by decide +kernel
set_option maxRecDepth 20000 in
theorem ggX4_order_X4_placeOf : GoodIn wsX4_order wsX4_placeOf := goodIn_r _ [6, 1, 7, 8, 9, 5, 10, 11, 12, 13, 14, 15, 16, 17, 18, 19, 20, 21, 22, 23, 24, 25, 26, 27, 28, 29, 30, 31, 32, 33, 34, 35, 36, 37, 38, 39, 40, 41, 42, 43, 44, 45, 46, 47, 48, 49, 50, 51, 52, 53, 54, 55] (by decide +kernel) (by decide +kernel)
set_option maxRecDepth 20000 in
theorem gX4_order_X4_placeOf : GoodIn wsX4_order (wsV RX4 168 RX4 yX4_placeOf wsX4_placeOf) := goodIn_app (goodIn_of _ (by decide +kernel)) ggX4_order_X4_placeOf
theorem dX4_order_0 : decode cX4_order 0 = .ok (.iload_n 1, 1) := by decide +kernel
theorem dX4_order_1 : decode cX4_order 1 = .ok (.ifCond .ge 5, 3) := by decide +kernel
theorem dX4_order_4 : decode cX4_order 4 = .ok (.iconst (-1), 1) := by decide +kernel
theorem dX4_order_5 : decode cX4_order 5 = .ok (.ireturn, 1) := by decide +kernel
theorem dX4_order_6 : decode cX4_order 6 = .ok (.iconst 0, 1) := by decide +kernel
theorem dX4_order_7 : decode cX4_order 7 = .ok (.istore_n 2, 1) := by decide +kernel
theorem dX4_order_8 : decode cX4_order 8 = .ok (.iload_n 2, 1) := by decide +kernel
theorem dX4_order_9 : decode cX4_order 9 = .ok (.aload_n 0, 1) := by decide +kernel
theorem dX4_order_10 : decode cX4_order 10 = .ok (.getfield 11, 3) := by decide +kernel
theorem dX4_order_13 : decode cX4_order 13 = .ok (.arraylength, 1) := by decide +kernel
theorem dX4_order_14 : decode cX4_order 14 = .ok (.if_icmp .ge 20, 3) := by decide +kernel
theorem dX4_order_17 : decode cX4_order 17 = .ok (.aload_n 0, 1) := by decide +kernel
theorem dX4_order_18 : decode cX4_order 18 = .ok (.iload_n 2, 1) := by decide +kernel
theorem dX4_order_19 : decode cX4_order 19 = .ok (.invokevirtual 168, 3) := by decide +kernel
theorem dX4_order_22 : decode cX4_order 22 = .ok (.iload_n 1, 1) := by decide +kernel
theorem dX4_order_23 : decode cX4_order 23 = .ok (.if_icmp .ne 5, 3) := by decide +kernel
theorem dX4_order_26 : decode cX4_order 26 = .ok (.iload_n 2, 1) := by decide +kernel
theorem dX4_order_27 : decode cX4_order 27 = .ok (.ireturn, 1) := by decide +kernel
theorem dX4_order_28 : decode cX4_order 28 = .ok (.iinc 2 1, 3) := by decide +kernel
theorem dX4_order_31 : decode cX4_order 31 = .ok (.goto (-23), 3) := by decide +kernel
theorem dX4_order_34 : decode cX4_order 34 = .ok (.iconst (-1), 1) := by decide +kernel
theorem dX4_order_35 : decode cX4_order 35 = .ok (.ireturn, 1) := by decide +kernel
set_option maxRecDepth 20000 in
theorem ggX4_extreme_X1_hasValue : GoodIn wsX4_extreme wsX1_hasValue := goodIn_r _ [7, 8, 9, 35, 36, 37, 38, 39, 40, 41, 42, 43] (by decide +kernel) (by decide +kernel)
set_option maxRecDepth 20000 in
theorem gX4_extreme_X1_hasValue : GoodIn wsX4_extreme (wsV RX4 93 RX1 yX1_hasValue wsX1_hasValue) := goodIn_app (goodIn_of _ (by decide +kernel)) ggX4_extreme_X1_hasValue
set_option maxRecDepth 20000 in
theorem ggX4_extreme_X1_relates : GoodIn wsX4_extreme wsX1_relates := goodIn_r _ [13, 9, 14, 15, 16, 6, 17, 18, 19, 20, 21, 22, 23, 35, 36, 37, 38, 39, 40, 41, 42, 43] (by decide +kernel) (by decide +kernel)
set_option maxRecDepth 20000 in
theorem gX4_extreme_X1_relates : GoodIn wsX4_extreme (wsV RX4 118 RX1 yX1_relates wsX1_relates) := goodIn_app (goodIn_of _ (by decide +kernel)) ggX4_extreme_X1_relates
theorem dX4_extreme_0 : decode cX4_extreme 0 = .ok (.iload_n 1, 1) := by decide +kernel
theorem dX4_extreme_1 : decode cX4_extreme 1 = .ok (.ifCond .eq 7, 3) := by decide +kernel
theorem dX4_extreme_4 : decode cX4_extreme 4 = .ok (.iconst 2, 1) := by decide +kernel
theorem dX4_extreme_5 : decode cX4_extreme 5 = .ok (.goto 4, 3) := by decide +kernel
theorem dX4_extreme_8 : decode cX4_extreme 8 = .ok (.iconst 0, 1) := by decide +kernel
theorem dX4_extreme_9 : decode cX4_extreme 9 = .ok (.istore_n 2, 1) := by decide +kernel
theorem dX4_extreme_10 : decode cX4_extreme 10 = .ok (.iconst (-1), 1) := by decide +kernel
theorem dX4_extreme_11 : decode cX4_extreme 11 = .ok (.istore_n 3, 1) := by decide +kernel
theorem dX4_extreme_12 : decode cX4_extreme 12 = .ok (.aconst_null, 1) := by decide +kernel
theorem dX4_extreme_13 : decode cX4_extreme 13 = .ok (.astore 4, 2) := by decide +kernel
theorem dX4_extreme_15 : decode cX4_extreme 15 = .ok (.iconst 0, 1) := by decide +kernel
theorem dX4_extreme_16 : decode cX4_extreme 16 = .ok (.istore 5, 2) := by decide +kernel
theorem dX4_extreme_18 : decode cX4_extreme 18 = .ok (.iload 5, 2) := by decide +kernel
theorem dX4_extreme_20 : decode cX4_extreme 20 = .ok (.aload_n 0, 1) := by decide +kernel
theorem dX4_extreme_21 : decode cX4_extreme 21 = .ok (.getfield 11, 3) := by decide +kernel
theorem dX4_extreme_24 : decode cX4_extreme 24 = .ok (.arraylength, 1) := by decide +kernel
theorem dX4_extreme_25 : decode cX4_extreme 25 = .ok (.if_icmp .ge 67, 3) := by decide +kernel
theorem dX4_extreme_28 : decode cX4_extreme 28 = .ok (.aload_n 0, 1) := by decide +kernel
theorem dX4_extreme_29 : decode cX4_extreme 29 = .ok (.getfield 11, 3) := by decide +kernel
theorem dX4_extreme_32 : decode cX4_extreme 32 = .ok (.iload 5, 2) := by decide +kernel
theorem dX4_extreme_34 : decode cX4_extreme 34 = .ok (.aaload, 1) := by decide +kernel
theorem dX4_extreme_35 : decode cX4_extreme 35 = .ok (.astore 6, 2) := by decide +kernel
theorem dX4_extreme_37 : decode cX4_extreme 37 = .ok (.aload 6, 2) := by decide +kernel
theorem dX4_extreme_39 : decode cX4_extreme 39 = .ok (.ifnull 47, 3) := by decide +kernel
theorem dX4_extreme_42 : decode cX4_extreme 42 = .ok (.aload 6, 2) := by decide +kernel
theorem dX4_extreme_44 : decode cX4_extreme 44 = .ok (.invokevirtual 93, 3) := by decide +kernel
theorem dX4_extreme_47 : decode cX4_extreme 47 = .ok (.ifCond .ne 6, 3) := by decide +kernel
theorem dX4_extreme_50 : decode cX4_extreme 50 = .ok (.goto 36, 3) := by decide +kernel
theorem dX4_extreme_53 : decode cX4_extreme 53 = .ok (.aload 4, 2) := by decide +kernel
theorem dX4_extreme_55 : decode cX4_extreme 55 = .ok (.ifnull 24, 3) := by decide +kernel
theorem dX4_extreme_58 : decode cX4_extreme 58 = .ok (.aload 6, 2) := by decide +kernel
theorem dX4_extreme_60 : decode cX4_extreme 60 = .ok (.aload 6, 2) := by decide +kernel
theorem dX4_extreme_62 : decode cX4_extreme 62 = .ok (.getfield 103, 3) := by decide +kernel
theorem dX4_extreme_65 : decode cX4_extreme 65 = .ok (.iload_n 2, 1) := by decide +kernel
theorem dX4_extreme_66 : decode cX4_extreme 66 = .ok (.aload 4, 2) := by decide +kernel
theorem dX4_extreme_68 : decode cX4_extreme 68 = .ok (.aload 4, 2) := by decide +kernel
theorem dX4_extreme_70 : decode cX4_extreme 70 = .ok (.getfield 103, 3) := by decide +kernel
theorem dX4_extreme_73 : decode cX4_extreme 73 = .ok (.invokevirtual 118, 3) := by decide +kernel
theorem dX4_extreme_76 : decode cX4_extreme 76 = .ok (.ifCond .eq 10, 3) := by decide +kernel
theorem dX4_extreme_79 : decode cX4_extreme 79 = .ok (.iload 5, 2) := by decide +kernel
theorem dX4_extreme_81 : decode cX4_extreme 81 = .ok (.istore_n 3, 1) := by decide +kernel
theorem dX4_extreme_82 : decode cX4_extreme 82 = .ok (.aload 6, 2) := by decide +kernel
theorem dX4_extreme_84 : decode cX4_extreme 84 = .ok (.astore 4, 2) := by decide +kernel
theorem dX4_extreme_86 : decode cX4_extreme 86 = .ok (.iinc 5 1, 3) := by decide +kernel
theorem dX4_extreme_89 : decode cX4_extreme 89 = .ok (.goto (-71), 3) := by decide +kernel
theorem dX4_extreme_92 : decode cX4_extreme 92 = .ok (.iload_n 3, 1) := by decide +kernel
theorem dX4_extreme_93 : decode cX4_extreme 93 = .ok (.ireturn, 1) := by decide +kernel
set_option maxRecDepth 20000 in
theorem ggX4_since_X4_isRelation : GoodIn wsX4_since wsX4_isRelation := goodIn_r _ [4] (by decide +kernel) (by decide +kernel)
set_option maxRecDepth 20000 in
theorem gX4_since_X4_isRelation : GoodIn wsX4_since (va_wsS RX4 115 yX4_isRelation wsX4_isRelation) := goodIn_app (goodIn_of _ (by decide +kernel)) ggX4_since_X4_isRelation
set_option maxRecDepth 20000 in
theorem ggX4_since_X4_isNumber : GoodIn wsX4_since wsX4_isNumber := goodIn_r _ [7, 8, 9] (by decide +kernel) (by decide +kernel)
set_option maxRecDepth 20000 in
theorem gX4_since_X4_isNumber : GoodIn wsX4_since (va_wsS RX4 61 yX4_isNumber wsX4_isNumber) := goodIn_app (goodIn_of _ (by decide +kernel)) ggX4_since_X4_isNumber
set_option maxRecDepth 20000 in
theorem ggX4_since_X4_gaugeAt : GoodIn wsX4_since wsX4_gaugeAt := goodIn_r _ [13, 14, 44, 45, 46, 47, 48, 49, 50, 51, 52, 53, 54] (by decide +kernel) (by decide +kernel)
set_option maxRecDepth 20000 in
theorem gX4_since_X4_gaugeAt : GoodIn wsX4_since (wsV RX4 65 RX4 yX4_gaugeAt wsX4_gaugeAt) := goodIn_app (goodIn_of _ (by decide +kernel)) ggX4_since_X4_gaugeAt
set_option maxRecDepth 20000 in
theorem ggX4_since_X1_rowUntil : GoodIn wsX4_since wsX1_rowUntil := goodIn_r _ [19, 20, 21, 22, 23, 24, 25, 26, 27, 28, 29, 30, 31, 18, 32, 33, 34, 35, 36, 37, 38, 39, 40, 41, 42, 43, 55, 56, 57, 58, 59, 60, 61, 62, 63, 64, 65] (by decide +kernel) (by decide +kernel)
set_option maxRecDepth 20000 in
theorem gX4_since_X1_rowUntil : GoodIn wsX4_since (wsV RX4 171 RX1 yX1_rowUntil wsX1_rowUntil) := goodIn_app (goodIn_of _ (by decide +kernel)) ggX4_since_X1_rowUntil
theorem dX4_since_0 : decode cX4_since 0 = .ok (.iload_n 2, 1) := by decide +kernel
theorem dX4_since_1 : decode cX4_since 1 = .ok (.invokestatic 115, 3) := by decide +kernel
theorem dX4_since_4 : decode cX4_since 4 = .ok (.ifCond .eq 10, 3) := by decide +kernel
theorem dX4_since_7 : decode cX4_since 7 = .ok (.iload_n 3, 1) := by decide +kernel
theorem dX4_since_8 : decode cX4_since 8 = .ok (.invokestatic 61, 3) := by decide +kernel
theorem dX4_since_11 : decode cX4_since 11 = .ok (.ifCond .ne 6, 3) := by decide +kernel
theorem dX4_since_14 : decode cX4_since 14 = .ok (.bipush (-4), 2) := by decide +kernel
theorem dX4_since_16 : decode cX4_since 16 = .ok (.ireturn, 1) := by decide +kernel
theorem dX4_since_17 : decode cX4_since 17 = .ok (.aload_n 0, 1) := by decide +kernel
theorem dX4_since_18 : decode cX4_since 18 = .ok (.iload_n 1, 1) := by decide +kernel
theorem dX4_since_19 : decode cX4_since 19 = .ok (.invokevirtual 65, 3) := by decide +kernel
theorem dX4_since_22 : decode cX4_since 22 = .ok (.astore 4, 2) := by decide +kernel
theorem dX4_since_24 : decode cX4_since 24 = .ok (.aload 4, 2) := by decide +kernel
theorem dX4_since_26 : decode cX4_since 26 = .ok (.ifnonnull 8, 3) := by decide +kernel
theorem dX4_since_29 : decode cX4_since 29 = .ok (.bipush (-2), 2) := by decide +kernel
theorem dX4_since_31 : decode cX4_since 31 = .ok (.goto 10, 3) := by decide +kernel
theorem dX4_since_34 : decode cX4_since 34 = .ok (.aload 4, 2) := by decide +kernel
theorem dX4_since_36 : decode cX4_since 36 = .ok (.iload_n 2, 1) := by decide +kernel
theorem dX4_since_37 : decode cX4_since 37 = .ok (.iload_n 3, 1) := by decide +kernel
theorem dX4_since_38 : decode cX4_since 38 = .ok (.invokevirtual 171, 3) := by decide +kernel
theorem dX4_since_41 : decode cX4_since 41 = .ok (.ireturn, 1) := by decide +kernel
set_option maxRecDepth 20000 in
theorem ggX4_counted_X4_isRelation : GoodIn wsX4_counted wsX4_isRelation := goodIn_r _ [4] (by decide +kernel) (by decide +kernel)
set_option maxRecDepth 20000 in
theorem gX4_counted_X4_isRelation : GoodIn wsX4_counted (va_wsS RX4 115 yX4_isRelation wsX4_isRelation) := goodIn_app (goodIn_of _ (by decide +kernel)) ggX4_counted_X4_isRelation
set_option maxRecDepth 20000 in
theorem ggX4_counted_X4_isNumber : GoodIn wsX4_counted wsX4_isNumber := goodIn_r _ [7, 8, 9] (by decide +kernel) (by decide +kernel)
set_option maxRecDepth 20000 in
theorem gX4_counted_X4_isNumber : GoodIn wsX4_counted (va_wsS RX4 61 yX4_isNumber wsX4_isNumber) := goodIn_app (goodIn_of _ (by decide +kernel)) ggX4_counted_X4_isNumber
set_option maxRecDepth 20000 in
theorem ggX4_counted_X4_gaugeAt : GoodIn wsX4_counted wsX4_gaugeAt := goodIn_r _ [13, 14, 44, 45, 46, 47, 48, 49, 50, 51, 52, 53, 54] (by decide +kernel) (by decide +kernel)
set_option maxRecDepth 20000 in
theorem gX4_counted_X4_gaugeAt : GoodIn wsX4_counted (wsV RX4 65 RX4 yX4_gaugeAt wsX4_gaugeAt) := goodIn_app (goodIn_of _ (by decide +kernel)) ggX4_counted_X4_gaugeAt
set_option maxRecDepth 20000 in
theorem ggX4_counted_X1_rowCount : GoodIn wsX4_counted wsX1_rowCount := goodIn_r _ [19, 20, 21, 22, 23, 24, 25, 26, 27, 28, 29, 30, 31, 18, 32, 33, 34, 35, 36, 37, 38, 39, 40, 41, 42, 43, 55, 56, 57, 58, 59, 60, 61, 62, 63, 64, 65] (by decide +kernel) (by decide +kernel)
set_option maxRecDepth 20000 in
theorem gX4_counted_X1_rowCount : GoodIn wsX4_counted (wsV RX4 175 RX1 yX1_rowCount wsX1_rowCount) := goodIn_app (goodIn_of _ (by decide +kernel)) ggX4_counted_X1_rowCount
theorem dX4_counted_0 : decode cX4_counted 0 = .ok (.iload_n 2, 1) := by decide +kernel
theorem dX4_counted_1 : decode cX4_counted 1 = .ok (.invokestatic 115, 3) := by decide +kernel
theorem dX4_counted_4 : decode cX4_counted 4 = .ok (.ifCond .eq 10, 3) := by decide +kernel
theorem dX4_counted_7 : decode cX4_counted 7 = .ok (.iload_n 3, 1) := by decide +kernel
theorem dX4_counted_8 : decode cX4_counted 8 = .ok (.invokestatic 61, 3) := by decide +kernel
theorem dX4_counted_11 : decode cX4_counted 11 = .ok (.ifCond .ne 6, 3) := by decide +kernel
theorem dX4_counted_14 : decode cX4_counted 14 = .ok (.bipush (-4), 2) := by decide +kernel
theorem dX4_counted_16 : decode cX4_counted 16 = .ok (.ireturn, 1) := by decide +kernel
theorem dX4_counted_17 : decode cX4_counted 17 = .ok (.aload_n 0, 1) := by decide +kernel
theorem dX4_counted_18 : decode cX4_counted 18 = .ok (.iload_n 1, 1) := by decide +kernel
theorem dX4_counted_19 : decode cX4_counted 19 = .ok (.invokevirtual 65, 3) := by decide +kernel
theorem dX4_counted_22 : decode cX4_counted 22 = .ok (.astore 4, 2) := by decide +kernel
theorem dX4_counted_24 : decode cX4_counted 24 = .ok (.aload 4, 2) := by decide +kernel
theorem dX4_counted_26 : decode cX4_counted 26 = .ok (.ifnonnull 8, 3) := by decide +kernel
theorem dX4_counted_29 : decode cX4_counted 29 = .ok (.bipush (-2), 2) := by decide +kernel
theorem dX4_counted_31 : decode cX4_counted 31 = .ok (.goto 10, 3) := by decide +kernel
theorem dX4_counted_34 : decode cX4_counted 34 = .ok (.aload 4, 2) := by decide +kernel
theorem dX4_counted_36 : decode cX4_counted 36 = .ok (.iload_n 2, 1) := by decide +kernel
theorem dX4_counted_37 : decode cX4_counted 37 = .ok (.iload_n 3, 1) := by decide +kernel
theorem dX4_counted_38 : decode cX4_counted 38 = .ok (.invokevirtual 175, 3) := by decide +kernel
theorem dX4_counted_41 : decode cX4_counted 41 = .ok (.ireturn, 1) := by decide +kernel
set_option maxRecDepth 20000 in
theorem ggX4_event_X2_at : GoodIn wsX4_event wsX2_at := goodIn_r _ [8, 9, 10, 22, 23] (by decide +kernel) (by decide +kernel)
set_option maxRecDepth 20000 in
theorem gX4_event_X2_at : GoodIn wsX4_event (wsV RX4 178 RX2 yX2_at wsX2_at) := goodIn_app (goodIn_of _ (by decide +kernel)) ggX4_event_X2_at
theorem dX4_event_0 : decode cX4_event 0 = .ok (.iload_n 2, 1) := by decide +kernel
theorem dX4_event_1 : decode cX4_event 1 = .ok (.tableswitch 54 0 2 #[27, 36, 45], 27) := by decide +kernel
theorem dX4_event_28 : decode cX4_event 28 = .ok (.aload_n 0, 1) := by decide +kernel
theorem dX4_event_29 : decode cX4_event 29 = .ok (.getfield 32, 3) := by decide +kernel
theorem dX4_event_32 : decode cX4_event 32 = .ok (.iload_n 1, 1) := by decide +kernel
theorem dX4_event_33 : decode cX4_event 33 = .ok (.invokevirtual 178, 3) := by decide +kernel
theorem dX4_event_36 : decode cX4_event 36 = .ok (.ireturn, 1) := by decide +kernel
theorem dX4_event_37 : decode cX4_event 37 = .ok (.aload_n 0, 1) := by decide +kernel
theorem dX4_event_38 : decode cX4_event 38 = .ok (.getfield 36, 3) := by decide +kernel
theorem dX4_event_41 : decode cX4_event 41 = .ok (.iload_n 1, 1) := by decide +kernel
theorem dX4_event_42 : decode cX4_event 42 = .ok (.invokevirtual 178, 3) := by decide +kernel
theorem dX4_event_45 : decode cX4_event 45 = .ok (.ireturn, 1) := by decide +kernel
theorem dX4_event_46 : decode cX4_event 46 = .ok (.aload_n 0, 1) := by decide +kernel
theorem dX4_event_47 : decode cX4_event 47 = .ok (.getfield 39, 3) := by decide +kernel
theorem dX4_event_50 : decode cX4_event 50 = .ok (.iload_n 1, 1) := by decide +kernel
theorem dX4_event_51 : decode cX4_event 51 = .ok (.invokevirtual 178, 3) := by decide +kernel
theorem dX4_event_54 : decode cX4_event 54 = .ok (.ireturn, 1) := by decide +kernel
theorem dX4_event_55 : decode cX4_event 55 = .ok (.iconst (-1), 1) := by decide +kernel
theorem dX4_event_56 : decode cX4_event 56 = .ok (.ireturn, 1) := by decide +kernel
set_option maxRecDepth 20000 in
theorem ggX4_about_X4_countGauges : GoodIn wsX4_about wsX4_countGauges := goodIn_r _ [10, 11, 18, 19, 20, 21, 22, 23, 24, 25, 26, 27, 28] (by decide +kernel) (by decide +kernel)
set_option maxRecDepth 20000 in
theorem gX4_about_X4_countGauges : GoodIn wsX4_about (wsV RX4 181 RX4 yX4_countGauges wsX4_countGauges) := goodIn_app (goodIn_of _ (by decide +kernel)) ggX4_about_X4_countGauges
set_option maxRecDepth 20000 in
theorem ggX4_about_X4_countTripped : GoodIn wsX4_about wsX4_countTripped := goodIn_r _ [15, 16, 17, 18, 19, 20, 21, 22, 23, 24, 25, 26, 27, 28, 29, 30, 31, 32] (by decide +kernel) (by decide +kernel)
set_option maxRecDepth 20000 in
theorem gX4_about_X4_countTripped : GoodIn wsX4_about (wsV RX4 185 RX4 yX4_countTripped wsX4_countTripped) := goodIn_app (goodIn_of _ (by decide +kernel)) ggX4_about_X4_countTripped
theorem dX4_about_0 : decode cX4_about 0 = .ok (.iload_n 1, 1) := by decide +kernel
theorem dX4_about_1 : decode cX4_about 1 = .ok (.tableswitch 78 0 6 #[43, 48, 53, 58, 63, 68, 73], 43) := by decide +kernel
theorem dX4_about_44 : decode cX4_about 44 = .ok (.aload_n 0, 1) := by decide +kernel
theorem dX4_about_45 : decode cX4_about 45 = .ok (.invokevirtual 181, 3) := by decide +kernel
theorem dX4_about_48 : decode cX4_about 48 = .ok (.ireturn, 1) := by decide +kernel
theorem dX4_about_49 : decode cX4_about 49 = .ok (.aload_n 0, 1) := by decide +kernel
theorem dX4_about_50 : decode cX4_about 50 = .ok (.getfield 42, 3) := by decide +kernel
theorem dX4_about_53 : decode cX4_about 53 = .ok (.ireturn, 1) := by decide +kernel
theorem dX4_about_54 : decode cX4_about 54 = .ok (.aload_n 0, 1) := by decide +kernel
theorem dX4_about_55 : decode cX4_about 55 = .ok (.getfield 46, 3) := by decide +kernel
theorem dX4_about_58 : decode cX4_about 58 = .ok (.ireturn, 1) := by decide +kernel
theorem dX4_about_59 : decode cX4_about 59 = .ok (.aload_n 0, 1) := by decide +kernel
theorem dX4_about_60 : decode cX4_about 60 = .ok (.getfield 49, 3) := by decide +kernel
theorem dX4_about_63 : decode cX4_about 63 = .ok (.ireturn, 1) := by decide +kernel
theorem dX4_about_64 : decode cX4_about 64 = .ok (.aload_n 0, 1) := by decide +kernel
theorem dX4_about_65 : decode cX4_about 65 = .ok (.getfield 52, 3) := by decide +kernel
theorem dX4_about_68 : decode cX4_about 68 = .ok (.ireturn, 1) := by decide +kernel
theorem dX4_about_69 : decode cX4_about 69 = .ok (.aload_n 0, 1) := by decide +kernel
theorem dX4_about_70 : decode cX4_about 70 = .ok (.invokevirtual 185, 3) := by decide +kernel
theorem dX4_about_73 : decode cX4_about 73 = .ok (.ireturn, 1) := by decide +kernel
theorem dX4_about_74 : decode cX4_about 74 = .ok (.aload_n 0, 1) := by decide +kernel
theorem dX4_about_75 : decode cX4_about 75 = .ok (.getfield 55, 3) := by decide +kernel
theorem dX4_about_78 : decode cX4_about 78 = .ok (.ireturn, 1) := by decide +kernel
theorem dX4_about_79 : decode cX4_about 79 = .ok (.iconst (-1), 1) := by decide +kernel
theorem dX4_about_80 : decode cX4_about 80 = .ok (.ireturn, 1) := by decide +kernel
theorem dX4_isNumber_0 : decode cX4_isNumber 0 = .ok (.iload_n 0, 1) := by decide +kernel
theorem dX4_isNumber_1 : decode cX4_isNumber 1 = .ok (.ldc 188, 2) := by decide +kernel
theorem dX4_isNumber_3 : decode cX4_isNumber 3 = .ok (.if_icmp .lt 13, 3) := by decide +kernel
theorem dX4_isNumber_6 : decode cX4_isNumber 6 = .ok (.iload_n 0, 1) := by decide +kernel
theorem dX4_isNumber_7 : decode cX4_isNumber 7 = .ok (.ldc 189, 2) := by decide +kernel
theorem dX4_isNumber_9 : decode cX4_isNumber 9 = .ok (.if_icmp .gt 7, 3) := by decide +kernel
theorem dX4_isNumber_12 : decode cX4_isNumber 12 = .ok (.iconst 1, 1) := by decide +kernel
theorem dX4_isNumber_13 : decode cX4_isNumber 13 = .ok (.goto 4, 3) := by decide +kernel
theorem dX4_isNumber_16 : decode cX4_isNumber 16 = .ok (.iconst 0, 1) := by decide +kernel
theorem dX4_isNumber_17 : decode cX4_isNumber 17 = .ok (.ireturn, 1) := by decide +kernel
theorem dX4_isRelation_0 : decode cX4_isRelation 0 = .ok (.iload_n 0, 1) := by decide +kernel
theorem dX4_isRelation_1 : decode cX4_isRelation 1 = .ok (.ifCond .lt 12, 3) := by decide +kernel
theorem dX4_isRelation_4 : decode cX4_isRelation 4 = .ok (.iload_n 0, 1) := by decide +kernel
theorem dX4_isRelation_5 : decode cX4_isRelation 5 = .ok (.iconst 5, 1) := by decide +kernel
theorem dX4_isRelation_6 : decode cX4_isRelation 6 = .ok (.if_icmp .gt 7, 3) := by decide +kernel
theorem dX4_isRelation_9 : decode cX4_isRelation 9 = .ok (.iconst 1, 1) := by decide +kernel
theorem dX4_isRelation_10 : decode cX4_isRelation 10 = .ok (.goto 4, 3) := by decide +kernel
theorem dX4_isRelation_13 : decode cX4_isRelation 13 = .ok (.iconst 0, 1) := by decide +kernel
theorem dX4_isRelation_14 : decode cX4_isRelation 14 = .ok (.ireturn, 1) := by decide +kernel
theorem dX4_asAnswer_0 : decode cX4_asAnswer 0 = .ok (.iload_n 0, 1) := by decide +kernel
theorem dX4_asAnswer_1 : decode cX4_asAnswer 1 = .ok (.ifCond .eq 7, 3) := by decide +kernel
theorem dX4_asAnswer_4 : decode cX4_asAnswer 4 = .ok (.iconst 1, 1) := by decide +kernel
theorem dX4_asAnswer_5 : decode cX4_asAnswer 5 = .ok (.goto 4, 3) := by decide +kernel
theorem dX4_asAnswer_8 : decode cX4_asAnswer 8 = .ok (.iconst 0, 1) := by decide +kernel
theorem dX4_asAnswer_9 : decode cX4_asAnswer 9 = .ok (.ireturn, 1) := by decide +kernel
theorem dX4_isConditionNumber_0 : decode cX4_isConditionNumber 0 = .ok (.iload_n 1, 1) := by decide +kernel
theorem dX4_isConditionNumber_1 : decode cX4_isConditionNumber 1 = .ok (.ifCond .lt 16, 3) := by decide +kernel
theorem dX4_isConditionNumber_4 : decode cX4_isConditionNumber 4 = .ok (.iload_n 1, 1) := by decide +kernel
theorem dX4_isConditionNumber_5 : decode cX4_isConditionNumber 5 = .ok (.aload_n 0, 1) := by decide +kernel
theorem dX4_isConditionNumber_6 : decode cX4_isConditionNumber 6 = .ok (.getfield 17, 3) := by decide +kernel
theorem dX4_isConditionNumber_9 : decode cX4_isConditionNumber 9 = .ok (.arraylength, 1) := by decide +kernel
theorem dX4_isConditionNumber_10 : decode cX4_isConditionNumber 10 = .ok (.if_icmp .ge 7, 3) := by decide +kernel
theorem dX4_isConditionNumber_13 : decode cX4_isConditionNumber 13 = .ok (.iconst 1, 1) := by decide +kernel
theorem dX4_isConditionNumber_14 : decode cX4_isConditionNumber 14 = .ok (.goto 4, 3) := by decide +kernel
theorem dX4_isConditionNumber_17 : decode cX4_isConditionNumber 17 = .ok (.iconst 0, 1) := by decide +kernel
theorem dX4_isConditionNumber_18 : decode cX4_isConditionNumber 18 = .ok (.ireturn, 1) := by decide +kernel
theorem dX4_gaugeAt_0 : decode cX4_gaugeAt 0 = .ok (.iload_n 1, 1) := by decide +kernel
theorem dX4_gaugeAt_1 : decode cX4_gaugeAt 1 = .ok (.ifCond .lt 21, 3) := by decide +kernel
theorem dX4_gaugeAt_4 : decode cX4_gaugeAt 4 = .ok (.iload_n 1, 1) := by decide +kernel
theorem dX4_gaugeAt_5 : decode cX4_gaugeAt 5 = .ok (.aload_n 0, 1) := by decide +kernel
theorem dX4_gaugeAt_6 : decode cX4_gaugeAt 6 = .ok (.getfield 11, 3) := by decide +kernel
theorem dX4_gaugeAt_9 : decode cX4_gaugeAt 9 = .ok (.arraylength, 1) := by decide +kernel
theorem dX4_gaugeAt_10 : decode cX4_gaugeAt 10 = .ok (.if_icmp .ge 12, 3) := by decide +kernel
theorem dX4_gaugeAt_13 : decode cX4_gaugeAt 13 = .ok (.aload_n 0, 1) := by decide +kernel
theorem dX4_gaugeAt_14 : decode cX4_gaugeAt 14 = .ok (.getfield 11, 3) := by decide +kernel
theorem dX4_gaugeAt_17 : decode cX4_gaugeAt 17 = .ok (.iload_n 1, 1) := by decide +kernel
theorem dX4_gaugeAt_18 : decode cX4_gaugeAt 18 = .ok (.aaload, 1) := by decide +kernel
theorem dX4_gaugeAt_19 : decode cX4_gaugeAt 19 = .ok (.goto 4, 3) := by decide +kernel
theorem dX4_gaugeAt_22 : decode cX4_gaugeAt 22 = .ok (.aconst_null, 1) := by decide +kernel
theorem dX4_gaugeAt_23 : decode cX4_gaugeAt 23 = .ok (.areturn, 1) := by decide +kernel
set_option maxRecDepth 20000 in
theorem ggX4_conditionAt_X4_isConditionNumber : GoodIn wsX4_conditionAt wsX4_isConditionNumber := goodIn_r _ [6, 1, 7, 8, 9, 10, 11, 12, 13, 14, 15, 16, 17] (by decide +kernel) (by decide +kernel)
set_option maxRecDepth 20000 in
theorem gX4_conditionAt_X4_isConditionNumber : GoodIn wsX4_conditionAt (wsV RX4 122 RX4 yX4_isConditionNumber wsX4_isConditionNumber) := goodIn_app (goodIn_of _ (by decide +kernel)) ggX4_conditionAt_X4_isConditionNumber
theorem dX4_conditionAt_0 : decode cX4_conditionAt 0 = .ok (.aload_n 0, 1) := by decide +kernel
theorem dX4_conditionAt_1 : decode cX4_conditionAt 1 = .ok (.iload_n 1, 1) := by decide +kernel
theorem dX4_conditionAt_2 : decode cX4_conditionAt 2 = .ok (.invokevirtual 122, 3) := by decide +kernel
theorem dX4_conditionAt_5 : decode cX4_conditionAt 5 = .ok (.ifCond .eq 12, 3) := by decide +kernel
theorem dX4_conditionAt_8 : decode cX4_conditionAt 8 = .ok (.aload_n 0, 1) := by decide +kernel
theorem dX4_conditionAt_9 : decode cX4_conditionAt 9 = .ok (.getfield 17, 3) := by decide +kernel
theorem dX4_conditionAt_12 : decode cX4_conditionAt 12 = .ok (.iload_n 1, 1) := by decide +kernel
theorem dX4_conditionAt_13 : decode cX4_conditionAt 13 = .ok (.aaload, 1) := by decide +kernel
theorem dX4_conditionAt_14 : decode cX4_conditionAt 14 = .ok (.goto 4, 3) := by decide +kernel
theorem dX4_conditionAt_17 : decode cX4_conditionAt 17 = .ok (.aconst_null, 1) := by decide +kernel
theorem dX4_conditionAt_18 : decode cX4_conditionAt 18 = .ok (.areturn, 1) := by decide +kernel
theorem dX4_tripAt_0 : decode cX4_tripAt 0 = .ok (.iload_n 1, 1) := by decide +kernel
theorem dX4_tripAt_1 : decode cX4_tripAt 1 = .ok (.ifCond .lt 21, 3) := by decide +kernel
theorem dX4_tripAt_4 : decode cX4_tripAt 4 = .ok (.iload_n 1, 1) := by decide +kernel
theorem dX4_tripAt_5 : decode cX4_tripAt 5 = .ok (.aload_n 0, 1) := by decide +kernel
theorem dX4_tripAt_6 : decode cX4_tripAt 6 = .ok (.getfield 23, 3) := by decide +kernel
theorem dX4_tripAt_9 : decode cX4_tripAt 9 = .ok (.arraylength, 1) := by decide +kernel
theorem dX4_tripAt_10 : decode cX4_tripAt 10 = .ok (.if_icmp .ge 12, 3) := by decide +kernel
theorem dX4_tripAt_13 : decode cX4_tripAt 13 = .ok (.aload_n 0, 1) := by decide +kernel
theorem dX4_tripAt_14 : decode cX4_tripAt 14 = .ok (.getfield 23, 3) := by decide +kernel
theorem dX4_tripAt_17 : decode cX4_tripAt 17 = .ok (.iload_n 1, 1) := by decide +kernel
theorem dX4_tripAt_18 : decode cX4_tripAt 18 = .ok (.aaload, 1) := by decide +kernel
theorem dX4_tripAt_19 : decode cX4_tripAt 19 = .ok (.goto 4, 3) := by decide +kernel
theorem dX4_tripAt_22 : decode cX4_tripAt 22 = .ok (.aconst_null, 1) := by decide +kernel
theorem dX4_tripAt_23 : decode cX4_tripAt 23 = .ok (.areturn, 1) := by decide +kernel
theorem dX4_countTaking_0 : decode cX4_countTaking 0 = .ok (.iload_n 1, 1) := by decide +kernel
theorem dX4_countTaking_1 : decode cX4_countTaking 1 = .ok (.iconst 2, 1) := by decide +kernel
theorem dX4_countTaking_2 : decode cX4_countTaking 2 = .ok (.if_icmp .ne 16, 3) := by decide +kernel
theorem dX4_countTaking_5 : decode cX4_countTaking 5 = .ok (.aload_n 0, 1) := by decide +kernel
theorem dX4_countTaking_6 : decode cX4_countTaking 6 = .ok (.dup, 1) := by decide +kernel
theorem dX4_countTaking_7 : decode cX4_countTaking 7 = .ok (.getfield 46, 3) := by decide +kernel
theorem dX4_countTaking_10 : decode cX4_countTaking 10 = .ok (.iconst 1, 1) := by decide +kernel
theorem dX4_countTaking_11 : decode cX4_countTaking 11 = .ok (.iadd, 1) := by decide +kernel
theorem dX4_countTaking_12 : decode cX4_countTaking 12 = .ok (.putfield 46, 3) := by decide +kernel
theorem dX4_countTaking_15 : decode cX4_countTaking 15 = .ok (.goto 31, 3) := by decide +kernel
theorem dX4_countTaking_18 : decode cX4_countTaking 18 = .ok (.iload_n 1, 1) := by decide +kernel
theorem dX4_countTaking_19 : decode cX4_countTaking 19 = .ok (.iconst 1, 1) := by decide +kernel
theorem dX4_countTaking_20 : decode cX4_countTaking 20 = .ok (.if_icmp .ne 16, 3) := by decide +kernel
theorem dX4_countTaking_23 : decode cX4_countTaking 23 = .ok (.aload_n 0, 1) := by decide +kernel
theorem dX4_countTaking_24 : decode cX4_countTaking 24 = .ok (.dup, 1) := by decide +kernel
theorem dX4_countTaking_25 : decode cX4_countTaking 25 = .ok (.getfield 49, 3) := by decide +kernel
theorem dX4_countTaking_28 : decode cX4_countTaking 28 = .ok (.iconst 1, 1) := by decide +kernel
theorem dX4_countTaking_29 : decode cX4_countTaking 29 = .ok (.iadd, 1) := by decide +kernel
theorem dX4_countTaking_30 : decode cX4_countTaking 30 = .ok (.putfield 49, 3) := by decide +kernel
theorem dX4_countTaking_33 : decode cX4_countTaking 33 = .ok (.goto 13, 3) := by decide +kernel
theorem dX4_countTaking_36 : decode cX4_countTaking 36 = .ok (.aload_n 0, 1) := by decide +kernel
theorem dX4_countTaking_37 : decode cX4_countTaking 37 = .ok (.dup, 1) := by decide +kernel
theorem dX4_countTaking_38 : decode cX4_countTaking 38 = .ok (.getfield 52, 3) := by decide +kernel
theorem dX4_countTaking_41 : decode cX4_countTaking 41 = .ok (.iconst 1, 1) := by decide +kernel
theorem dX4_countTaking_42 : decode cX4_countTaking 42 = .ok (.iadd, 1) := by decide +kernel
theorem dX4_countTaking_43 : decode cX4_countTaking 43 = .ok (.putfield 52, 3) := by decide +kernel
theorem dX4_countTaking_46 : decode cX4_countTaking 46 = .ok (.return_, 1) := by decide +kernel
set_option maxRecDepth 20000 in
theorem ggX4_ageGauges_X1_hasValue : GoodIn wsX4_ageGauges wsX1_hasValue := goodIn_r _ [7, 8, 9, 21, 22, 23, 24, 25, 26, 27, 28, 29] (by decide +kernel) (by decide +kernel)
set_option maxRecDepth 20000 in
theorem gX4_ageGauges_X1_hasValue : GoodIn wsX4_ageGauges (wsV RX4 93 RX1 yX1_hasValue wsX1_hasValue) := goodIn_app (goodIn_of _ (by decide +kernel)) ggX4_ageGauges_X1_hasValue
theorem dX4_ageGauges_0 : decode cX4_ageGauges 0 = .ok (.iconst 0, 1) := by decide +kernel
theorem dX4_ageGauges_1 : decode cX4_ageGauges 1 = .ok (.istore_n 1, 1) := by decide +kernel
theorem dX4_ageGauges_2 : decode cX4_ageGauges 2 = .ok (.iload_n 1, 1) := by decide +kernel
theorem dX4_ageGauges_3 : decode cX4_ageGauges 3 = .ok (.aload_n 0, 1) := by decide +kernel
theorem dX4_ageGauges_4 : decode cX4_ageGauges 4 = .ok (.getfield 11, 3) := by decide +kernel
theorem dX4_ageGauges_7 : decode cX4_ageGauges 7 = .ok (.arraylength, 1) := by decide +kernel
theorem dX4_ageGauges_8 : decode cX4_ageGauges 8 = .ok (.if_icmp .ge 41, 3) := by decide +kernel
theorem dX4_ageGauges_11 : decode cX4_ageGauges 11 = .ok (.aload_n 0, 1) := by decide +kernel
theorem dX4_ageGauges_12 : decode cX4_ageGauges 12 = .ok (.getfield 11, 3) := by decide +kernel
theorem dX4_ageGauges_15 : decode cX4_ageGauges 15 = .ok (.iload_n 1, 1) := by decide +kernel
theorem dX4_ageGauges_16 : decode cX4_ageGauges 16 = .ok (.aaload, 1) := by decide +kernel
theorem dX4_ageGauges_17 : decode cX4_ageGauges 17 = .ok (.astore_n 2, 1) := by decide +kernel
theorem dX4_ageGauges_18 : decode cX4_ageGauges 18 = .ok (.aload_n 2, 1) := by decide +kernel
theorem dX4_ageGauges_19 : decode cX4_ageGauges 19 = .ok (.ifnull 24, 3) := by decide +kernel
theorem dX4_ageGauges_22 : decode cX4_ageGauges 22 = .ok (.aload_n 2, 1) := by decide +kernel
theorem dX4_ageGauges_23 : decode cX4_ageGauges 23 = .ok (.aload_n 2, 1) := by decide +kernel
theorem dX4_ageGauges_24 : decode cX4_ageGauges 24 = .ok (.invokevirtual 93, 3) := by decide +kernel
theorem dX4_ageGauges_27 : decode cX4_ageGauges 27 = .ok (.ifCond .eq 7, 3) := by decide +kernel
theorem dX4_ageGauges_30 : decode cX4_ageGauges 30 = .ok (.iconst 0, 1) := by decide +kernel
theorem dX4_ageGauges_31 : decode cX4_ageGauges 31 = .ok (.goto 9, 3) := by decide +kernel
theorem dX4_ageGauges_34 : decode cX4_ageGauges 34 = .ok (.aload_n 2, 1) := by decide +kernel
theorem dX4_ageGauges_35 : decode cX4_ageGauges 35 = .ok (.getfield 112, 3) := by decide +kernel
theorem dX4_ageGauges_38 : decode cX4_ageGauges 38 = .ok (.iconst 1, 1) := by decide +kernel
theorem dX4_ageGauges_39 : decode cX4_ageGauges 39 = .ok (.iadd, 1) := by decide +kernel
theorem dX4_ageGauges_40 : decode cX4_ageGauges 40 = .ok (.putfield 112, 3) := by decide +kernel
theorem dX4_ageGauges_43 : decode cX4_ageGauges 43 = .ok (.iinc 1 1, 3) := by decide +kernel
theorem dX4_ageGauges_46 : decode cX4_ageGauges 46 = .ok (.goto (-44), 3) := by decide +kernel
theorem dX4_ageGauges_49 : decode cX4_ageGauges 49 = .ok (.return_, 1) := by decide +kernel
set_option maxRecDepth 20000 in
theorem ggX4_isDue_X4_countHolding : GoodIn wsX4_isDue wsX4_countHolding := goodIn_r _ [6, 7, 8, 9, 10, 11, 12, 13, 14, 15, 16, 5, 17, 18, 19, 20, 21, 22, 23, 24, 25, 26, 27, 28, 29, 30, 31, 32, 33, 34, 35, 36, 37, 38, 39, 40, 41, 42, 43, 44, 45, 46, 47, 48, 49, 50, 51, 52, 53, 54, 55, 56, 57, 58, 59, 60, 61, 62, 63, 64, 65, 66, 67, 68, 69, 70, 71, 72, 73, 74, 75, 76, 77, 78, 79, 80, 81, 82, 83] (by decide +kernel) (by decide +kernel)
set_option maxRecDepth 20000 in
theorem gX4_isDue_X4_countHolding : GoodIn wsX4_isDue (wsV RX4 165 RX4 yX4_countHolding wsX4_countHolding) := goodIn_app (goodIn_of _ (by decide +kernel)) ggX4_isDue_X4_countHolding
theorem dX4_isDue_0 : decode cX4_isDue 0 = .ok (.aload_n 0, 1) := by decide +kernel
theorem dX4_isDue_1 : decode cX4_isDue 1 = .ok (.aload_n 1, 1) := by decide +kernel
theorem dX4_isDue_2 : decode cX4_isDue 2 = .ok (.invokevirtual 165, 3) := by decide +kernel
theorem dX4_isDue_5 : decode cX4_isDue 5 = .ok (.aload_n 1, 1) := by decide +kernel
theorem dX4_isDue_6 : decode cX4_isDue 6 = .ok (.getfield 190, 3) := by decide +kernel
theorem dX4_isDue_9 : decode cX4_isDue 9 = .ok (.if_icmp .lt 7, 3) := by decide +kernel
theorem dX4_isDue_12 : decode cX4_isDue 12 = .ok (.iconst 1, 1) := by decide +kernel
theorem dX4_isDue_13 : decode cX4_isDue 13 = .ok (.goto 4, 3) := by decide +kernel
theorem dX4_isDue_16 : decode cX4_isDue 16 = .ok (.iconst 0, 1) := by decide +kernel
theorem dX4_isDue_17 : decode cX4_isDue 17 = .ok (.ireturn, 1) := by decide +kernel
set_option maxRecDepth 20000 in
theorem ggX4_countHolding_X3_partAt : GoodIn wsX4_countHolding wsX3_partAt := goodIn_r _ [6, 7, 50, 51, 52, 53] (by decide +kernel) (by decide +kernel)
set_option maxRecDepth 20000 in
theorem gX4_countHolding_X3_partAt : GoodIn wsX4_countHolding (wsV RX4 193 RX3 yX3_partAt wsX3_partAt) := goodIn_app (goodIn_of _ (by decide +kernel)) ggX4_countHolding_X3_partAt
set_option maxRecDepth 20000 in
theorem ggX4_countHolding_X4_isHolding : GoodIn wsX4_countHolding wsX4_isHolding := goodIn_r _ [12, 13, 14, 15, 11, 16, 17, 18, 19, 20, 21, 22, 23, 24, 25, 26, 27, 28, 29, 30, 31, 32, 33, 34, 35, 36, 37, 38, 39, 40, 41, 42, 43, 44, 45, 46, 47, 48, 49, 54, 55, 56, 57, 58, 59, 60, 61, 62, 63, 64, 65, 66, 67, 68, 69, 70, 71, 72, 73, 74, 75, 76, 77, 78] (by decide +kernel) (by decide +kernel)
set_option maxRecDepth 20000 in
theorem gX4_countHolding_X4_isHolding : GoodIn wsX4_countHolding (wsV RX4 196 RX4 yX4_isHolding wsX4_isHolding) := goodIn_app (goodIn_of _ (by decide +kernel)) ggX4_countHolding_X4_isHolding
theorem dX4_countHolding_0 : decode cX4_countHolding 0 = .ok (.iconst 0, 1) := by decide +kernel
theorem dX4_countHolding_1 : decode cX4_countHolding 1 = .ok (.istore_n 2, 1) := by decide +kernel
theorem dX4_countHolding_2 : decode cX4_countHolding 2 = .ok (.iconst 0, 1) := by decide +kernel
theorem dX4_countHolding_3 : decode cX4_countHolding 3 = .ok (.istore_n 3, 1) := by decide +kernel
theorem dX4_countHolding_4 : decode cX4_countHolding 4 = .ok (.iload_n 3, 1) := by decide +kernel
theorem dX4_countHolding_5 : decode cX4_countHolding 5 = .ok (.aload_n 1, 1) := by decide +kernel
theorem dX4_countHolding_6 : decode cX4_countHolding 6 = .ok (.getfield 143, 3) := by decide +kernel
theorem dX4_countHolding_9 : decode cX4_countHolding 9 = .ok (.if_icmp .ge 24, 3) := by decide +kernel
theorem dX4_countHolding_12 : decode cX4_countHolding 12 = .ok (.aload_n 0, 1) := by decide +kernel
theorem dX4_countHolding_13 : decode cX4_countHolding 13 = .ok (.aload_n 1, 1) := by decide +kernel
theorem dX4_countHolding_14 : decode cX4_countHolding 14 = .ok (.iload_n 3, 1) := by decide +kernel
theorem dX4_countHolding_15 : decode cX4_countHolding 15 = .ok (.invokevirtual 193, 3) := by decide +kernel
theorem dX4_countHolding_18 : decode cX4_countHolding 18 = .ok (.invokevirtual 196, 3) := by decide +kernel
theorem dX4_countHolding_21 : decode cX4_countHolding 21 = .ok (.ifCond .eq 6, 3) := by decide +kernel
theorem dX4_countHolding_24 : decode cX4_countHolding 24 = .ok (.iinc 2 1, 3) := by decide +kernel
theorem dX4_countHolding_27 : decode cX4_countHolding 27 = .ok (.iinc 3 1, 3) := by decide +kernel
theorem dX4_countHolding_30 : decode cX4_countHolding 30 = .ok (.goto (-26), 3) := by decide +kernel
theorem dX4_countHolding_33 : decode cX4_countHolding 33 = .ok (.iload_n 2, 1) := by decide +kernel
theorem dX4_countHolding_34 : decode cX4_countHolding 34 = .ok (.ireturn, 1) := by decide +kernel
set_option maxRecDepth 20000 in
theorem ggX4_firstHolding_X3_partAt : GoodIn wsX4_firstHolding wsX3_partAt := goodIn_r _ [6, 7, 50, 51, 52, 53] (by decide +kernel) (by decide +kernel)
set_option maxRecDepth 20000 in
theorem gX4_firstHolding_X3_partAt : GoodIn wsX4_firstHolding (wsV RX4 193 RX3 yX3_partAt wsX3_partAt) := goodIn_app (goodIn_of _ (by decide +kernel)) ggX4_firstHolding_X3_partAt
set_option maxRecDepth 20000 in
theorem ggX4_firstHolding_X4_isHolding : GoodIn wsX4_firstHolding wsX4_isHolding := goodIn_r _ [12, 13, 14, 15, 11, 16, 17, 18, 19, 20, 21, 22, 23, 24, 25, 26, 27, 28, 29, 30, 31, 32, 33, 34, 35, 36, 37, 38, 39, 40, 41, 42, 43, 44, 45, 46, 47, 48, 49, 54, 55, 56, 57, 58, 59, 60, 61, 62, 63, 64, 65, 66, 67, 68, 69, 70, 71, 72, 73, 74, 75, 76, 77, 78] (by decide +kernel) (by decide +kernel)
set_option maxRecDepth 20000 in
theorem gX4_firstHolding_X4_isHolding : GoodIn wsX4_firstHolding (wsV RX4 196 RX4 yX4_isHolding wsX4_isHolding) := goodIn_app (goodIn_of _ (by decide +kernel)) ggX4_firstHolding_X4_isHolding
theorem dX4_firstHolding_0 : decode cX4_firstHolding 0 = .ok (.iconst 0, 1) := by decide +kernel
theorem dX4_firstHolding_1 : decode cX4_firstHolding 1 = .ok (.istore_n 2, 1) := by decide +kernel
theorem dX4_firstHolding_2 : decode cX4_firstHolding 2 = .ok (.iload_n 2, 1) := by decide +kernel
theorem dX4_firstHolding_3 : decode cX4_firstHolding 3 = .ok (.aload_n 1, 1) := by decide +kernel
theorem dX4_firstHolding_4 : decode cX4_firstHolding 4 = .ok (.getfield 143, 3) := by decide +kernel
theorem dX4_firstHolding_7 : decode cX4_firstHolding 7 = .ok (.if_icmp .ge 27, 3) := by decide +kernel
theorem dX4_firstHolding_10 : decode cX4_firstHolding 10 = .ok (.aload_n 0, 1) := by decide +kernel
theorem dX4_firstHolding_11 : decode cX4_firstHolding 11 = .ok (.aload_n 1, 1) := by decide +kernel
theorem dX4_firstHolding_12 : decode cX4_firstHolding 12 = .ok (.iload_n 2, 1) := by decide +kernel
theorem dX4_firstHolding_13 : decode cX4_firstHolding 13 = .ok (.invokevirtual 193, 3) := by decide +kernel
theorem dX4_firstHolding_16 : decode cX4_firstHolding 16 = .ok (.invokevirtual 196, 3) := by decide +kernel
theorem dX4_firstHolding_19 : decode cX4_firstHolding 19 = .ok (.ifCond .eq 9, 3) := by decide +kernel
theorem dX4_firstHolding_22 : decode cX4_firstHolding 22 = .ok (.aload_n 1, 1) := by decide +kernel
theorem dX4_firstHolding_23 : decode cX4_firstHolding 23 = .ok (.iload_n 2, 1) := by decide +kernel
theorem dX4_firstHolding_24 : decode cX4_firstHolding 24 = .ok (.invokevirtual 193, 3) := by decide +kernel
theorem dX4_firstHolding_27 : decode cX4_firstHolding 27 = .ok (.ireturn, 1) := by decide +kernel
theorem dX4_firstHolding_28 : decode cX4_firstHolding 28 = .ok (.iinc 2 1, 3) := by decide +kernel
theorem dX4_firstHolding_31 : decode cX4_firstHolding 31 = .ok (.goto (-29), 3) := by decide +kernel
theorem dX4_firstHolding_34 : decode cX4_firstHolding 34 = .ok (.iconst (-1), 1) := by decide +kernel
theorem dX4_firstHolding_35 : decode cX4_firstHolding 35 = .ok (.ireturn, 1) := by decide +kernel
set_option maxRecDepth 20000 in
theorem ggX4_isHolding_X4_conditionAt : GoodIn wsX4_isHolding wsX4_conditionAt := goodIn_r _ [5, 6, 7, 8, 9, 4, 10, 39, 40, 41, 42, 43, 44, 45, 46, 47, 48, 49] (by decide +kernel) (by decide +kernel)
set_option maxRecDepth 20000 in
theorem gX4_isHolding_X4_conditionAt : GoodIn wsX4_isHolding (wsV RX4 128 RX4 yX4_conditionAt wsX4_conditionAt) := goodIn_app (goodIn_of _ (by decide +kernel)) ggX4_isHolding_X4_conditionAt
set_option maxRecDepth 20000 in
theorem ggX4_isHolding_X0_isMet : GoodIn wsX4_isHolding wsX0_isMet := goodIn_r _ [15, 16, 17, 18, 19, 20, 21, 22, 23, 24, 25, 26, 27, 28, 29, 30, 31, 32, 33, 34, 35, 36, 37, 38, 50, 51, 52, 53, 54, 55, 56, 57, 58, 59, 60, 61, 62, 63] (by decide +kernel) (by decide +kernel)
set_option maxRecDepth 20000 in
theorem gX4_isHolding_X0_isMet : GoodIn wsX4_isHolding (wsV RX4 132 RX0 yX0_isMet wsX0_isMet) := goodIn_app (goodIn_of _ (by decide +kernel)) ggX4_isHolding_X0_isMet
theorem dX4_isHolding_0 : decode cX4_isHolding 0 = .ok (.aload_n 0, 1) := by decide +kernel
theorem dX4_isHolding_1 : decode cX4_isHolding 1 = .ok (.iload_n 1, 1) := by decide +kernel
theorem dX4_isHolding_2 : decode cX4_isHolding 2 = .ok (.invokevirtual 128, 3) := by decide +kernel
theorem dX4_isHolding_5 : decode cX4_isHolding 5 = .ok (.astore_n 2, 1) := by decide +kernel
theorem dX4_isHolding_6 : decode cX4_isHolding 6 = .ok (.aload_n 2, 1) := by decide +kernel
theorem dX4_isHolding_7 : decode cX4_isHolding 7 = .ok (.ifnull 14, 3) := by decide +kernel
theorem dX4_isHolding_10 : decode cX4_isHolding 10 = .ok (.aload_n 2, 1) := by decide +kernel
theorem dX4_isHolding_11 : decode cX4_isHolding 11 = .ok (.invokevirtual 132, 3) := by decide +kernel
theorem dX4_isHolding_14 : decode cX4_isHolding 14 = .ok (.ifCond .eq 7, 3) := by decide +kernel
theorem dX4_isHolding_17 : decode cX4_isHolding 17 = .ok (.iconst 1, 1) := by decide +kernel
theorem dX4_isHolding_18 : decode cX4_isHolding 18 = .ok (.goto 4, 3) := by decide +kernel
theorem dX4_isHolding_21 : decode cX4_isHolding 21 = .ok (.iconst 0, 1) := by decide +kernel
theorem dX4_isHolding_22 : decode cX4_isHolding 22 = .ok (.ireturn, 1) := by decide +kernel
set_option maxRecDepth 20000 in
theorem ggX4_keepEvent_X2_push : GoodIn wsX4_keepEvent wsX2_push := goodIn_r _ [10, 11, 12, 24, 25] (by decide +kernel) (by decide +kernel)
set_option maxRecDepth 20000 in
theorem gX4_keepEvent_X2_push : GoodIn wsX4_keepEvent (wsV RX4 199 RX2 yX2_push wsX2_push) := goodIn_app (goodIn_of _ (by decide +kernel)) ggX4_keepEvent_X2_push
theorem dX4_keepEvent_0 : decode cX4_keepEvent 0 = .ok (.aload_n 0, 1) := by decide +kernel
theorem dX4_keepEvent_1 : decode cX4_keepEvent 1 = .ok (.getfield 32, 3) := by decide +kernel
theorem dX4_keepEvent_4 : decode cX4_keepEvent 4 = .ok (.iload_n 1, 1) := by decide +kernel
theorem dX4_keepEvent_5 : decode cX4_keepEvent 5 = .ok (.invokevirtual 199, 3) := by decide +kernel
theorem dX4_keepEvent_8 : decode cX4_keepEvent 8 = .ok (.aload_n 0, 1) := by decide +kernel
theorem dX4_keepEvent_9 : decode cX4_keepEvent 9 = .ok (.getfield 36, 3) := by decide +kernel
theorem dX4_keepEvent_12 : decode cX4_keepEvent 12 = .ok (.aload_n 0, 1) := by decide +kernel
theorem dX4_keepEvent_13 : decode cX4_keepEvent 13 = .ok (.getfield 42, 3) := by decide +kernel
theorem dX4_keepEvent_16 : decode cX4_keepEvent 16 = .ok (.invokevirtual 199, 3) := by decide +kernel
theorem dX4_keepEvent_19 : decode cX4_keepEvent 19 = .ok (.aload_n 0, 1) := by decide +kernel
theorem dX4_keepEvent_20 : decode cX4_keepEvent 20 = .ok (.getfield 39, 3) := by decide +kernel
theorem dX4_keepEvent_23 : decode cX4_keepEvent 23 = .ok (.iload_n 2, 1) := by decide +kernel
theorem dX4_keepEvent_24 : decode cX4_keepEvent 24 = .ok (.invokevirtual 199, 3) := by decide +kernel
theorem dX4_keepEvent_27 : decode cX4_keepEvent 27 = .ok (.aload_n 0, 1) := by decide +kernel
theorem dX4_keepEvent_28 : decode cX4_keepEvent 28 = .ok (.dup, 1) := by decide +kernel
theorem dX4_keepEvent_29 : decode cX4_keepEvent 29 = .ok (.getfield 55, 3) := by decide +kernel
theorem dX4_keepEvent_32 : decode cX4_keepEvent 32 = .ok (.iconst 1, 1) := by decide +kernel
theorem dX4_keepEvent_33 : decode cX4_keepEvent 33 = .ok (.iadd, 1) := by decide +kernel
theorem dX4_keepEvent_34 : decode cX4_keepEvent 34 = .ok (.putfield 55, 3) := by decide +kernel
theorem dX4_keepEvent_37 : decode cX4_keepEvent 37 = .ok (.return_, 1) := by decide +kernel
set_option maxRecDepth 20000 in
theorem ggX4_placeOf_X4_gaugeAt : GoodIn wsX4_placeOf wsX4_gaugeAt := goodIn_r _ [6, 1, 32, 33, 34, 35, 36, 37, 38, 39, 40, 41, 42] (by decide +kernel) (by decide +kernel)
set_option maxRecDepth 20000 in
theorem gX4_placeOf_X4_gaugeAt : GoodIn wsX4_placeOf (wsV RX4 65 RX4 yX4_gaugeAt wsX4_gaugeAt) := goodIn_app (goodIn_of _ (by decide +kernel)) ggX4_placeOf_X4_gaugeAt
set_option maxRecDepth 20000 in
theorem ggX4_placeOf_X4_comesBefore : GoodIn wsX4_placeOf wsX4_comesBefore := goodIn_r _ [9, 10, 11, 12, 13, 14, 15, 16, 17, 18, 19, 20, 21, 22, 23, 24, 25, 26, 27, 28, 29, 30, 31, 43, 44, 45, 46, 47, 48, 49, 50, 51] (by decide +kernel) (by decide +kernel)
set_option maxRecDepth 20000 in
theorem gX4_placeOf_X4_comesBefore : GoodIn wsX4_placeOf (va_wsS RX4 202 yX4_comesBefore wsX4_comesBefore) := goodIn_app (goodIn_of _ (by decide +kernel)) ggX4_placeOf_X4_comesBefore
theorem dX4_placeOf_0 : decode cX4_placeOf 0 = .ok (.aload_n 0, 1) := by decide +kernel
theorem dX4_placeOf_1 : decode cX4_placeOf 1 = .ok (.iload_n 1, 1) := by decide +kernel
theorem dX4_placeOf_2 : decode cX4_placeOf 2 = .ok (.invokevirtual 65, 3) := by decide +kernel
theorem dX4_placeOf_5 : decode cX4_placeOf 5 = .ok (.astore_n 2, 1) := by decide +kernel
theorem dX4_placeOf_6 : decode cX4_placeOf 6 = .ok (.aload_n 2, 1) := by decide +kernel
theorem dX4_placeOf_7 : decode cX4_placeOf 7 = .ok (.ifnonnull 5, 3) := by decide +kernel
theorem dX4_placeOf_10 : decode cX4_placeOf 10 = .ok (.iconst (-1), 1) := by decide +kernel
theorem dX4_placeOf_11 : decode cX4_placeOf 11 = .ok (.ireturn, 1) := by decide +kernel
theorem dX4_placeOf_12 : decode cX4_placeOf 12 = .ok (.iconst 0, 1) := by decide +kernel
theorem dX4_placeOf_13 : decode cX4_placeOf 13 = .ok (.istore_n 3, 1) := by decide +kernel
theorem dX4_placeOf_14 : decode cX4_placeOf 14 = .ok (.iconst 0, 1) := by decide +kernel
theorem dX4_placeOf_15 : decode cX4_placeOf 15 = .ok (.istore 4, 2) := by decide +kernel
theorem dX4_placeOf_17 : decode cX4_placeOf 17 = .ok (.iload 4, 2) := by decide +kernel
theorem dX4_placeOf_19 : decode cX4_placeOf 19 = .ok (.aload_n 0, 1) := by decide +kernel
theorem dX4_placeOf_20 : decode cX4_placeOf 20 = .ok (.getfield 11, 3) := by decide +kernel
theorem dX4_placeOf_23 : decode cX4_placeOf 23 = .ok (.arraylength, 1) := by decide +kernel
theorem dX4_placeOf_24 : decode cX4_placeOf 24 = .ok (.if_icmp .ge 47, 3) := by decide +kernel
theorem dX4_placeOf_27 : decode cX4_placeOf 27 = .ok (.aload_n 0, 1) := by decide +kernel
theorem dX4_placeOf_28 : decode cX4_placeOf 28 = .ok (.getfield 11, 3) := by decide +kernel
theorem dX4_placeOf_31 : decode cX4_placeOf 31 = .ok (.iload 4, 2) := by decide +kernel
theorem dX4_placeOf_33 : decode cX4_placeOf 33 = .ok (.aaload, 1) := by decide +kernel
theorem dX4_placeOf_34 : decode cX4_placeOf 34 = .ok (.ifnull 31, 3) := by decide +kernel
theorem dX4_placeOf_37 : decode cX4_placeOf 37 = .ok (.aload_n 0, 1) := by decide +kernel
theorem dX4_placeOf_38 : decode cX4_placeOf 38 = .ok (.getfield 11, 3) := by decide +kernel
theorem dX4_placeOf_41 : decode cX4_placeOf 41 = .ok (.iload 4, 2) := by decide +kernel
theorem dX4_placeOf_43 : decode cX4_placeOf 43 = .ok (.aaload, 1) := by decide +kernel
theorem dX4_placeOf_44 : decode cX4_placeOf 44 = .ok (.aload_n 2, 1) := by decide +kernel
theorem dX4_placeOf_45 : decode cX4_placeOf 45 = .ok (.iload 4, 2) := by decide +kernel
theorem dX4_placeOf_47 : decode cX4_placeOf 47 = .ok (.iload_n 1, 1) := by decide +kernel
theorem dX4_placeOf_48 : decode cX4_placeOf 48 = .ok (.if_icmp .ge 7, 3) := by decide +kernel
theorem dX4_placeOf_51 : decode cX4_placeOf 51 = .ok (.iconst 1, 1) := by decide +kernel
theorem dX4_placeOf_52 : decode cX4_placeOf 52 = .ok (.goto 4, 3) := by decide +kernel
theorem dX4_placeOf_55 : decode cX4_placeOf 55 = .ok (.iconst 0, 1) := by decide +kernel
theorem dX4_placeOf_56 : decode cX4_placeOf 56 = .ok (.invokestatic 202, 3) := by decide +kernel
theorem dX4_placeOf_59 : decode cX4_placeOf 59 = .ok (.ifCond .eq 6, 3) := by decide +kernel
theorem dX4_placeOf_62 : decode cX4_placeOf 62 = .ok (.iinc 3 1, 3) := by decide +kernel
theorem dX4_placeOf_65 : decode cX4_placeOf 65 = .ok (.iinc 4 1, 3) := by decide +kernel
theorem dX4_placeOf_68 : decode cX4_placeOf 68 = .ok (.goto (-51), 3) := by decide +kernel
theorem dX4_placeOf_71 : decode cX4_placeOf 71 = .ok (.iload_n 3, 1) := by decide +kernel
theorem dX4_placeOf_72 : decode cX4_placeOf 72 = .ok (.ireturn, 1) := by decide +kernel
set_option maxRecDepth 20000 in
theorem ggX4_comesBefore_X1_hasValue : GoodIn wsX4_comesBefore wsX1_hasValue := goodIn_r _ [6, 7, 8, 23, 24, 25, 26, 27, 28, 29, 30, 31] (by decide +kernel) (by decide +kernel)
set_option maxRecDepth 20000 in
theorem gX4_comesBefore_X1_hasValue : GoodIn wsX4_comesBefore (wsV RX4 93 RX1 yX1_hasValue wsX1_hasValue) := goodIn_app (goodIn_of _ (by decide +kernel)) ggX4_comesBefore_X1_hasValue
set_option maxRecDepth 20000 in
theorem ggX4_comesBefore_X1_relates : GoodIn wsX4_comesBefore wsX1_relates := goodIn_r _ [12, 8, 13, 14, 15, 5, 16, 17, 18, 19, 20, 21, 22, 23, 24, 25, 26, 27, 28, 29, 30, 31] (by decide +kernel) (by decide +kernel)
set_option maxRecDepth 20000 in
theorem gX4_comesBefore_X1_relates : GoodIn wsX4_comesBefore (wsV RX4 118 RX1 yX1_relates wsX1_relates) := goodIn_app (goodIn_of _ (by decide +kernel)) ggX4_comesBefore_X1_relates
theorem dX4_comesBefore_0 : decode cX4_comesBefore 0 = .ok (.aload_n 0, 1) := by decide +kernel
theorem dX4_comesBefore_1 : decode cX4_comesBefore 1 = .ok (.invokevirtual 93, 3) := by decide +kernel
theorem dX4_comesBefore_4 : decode cX4_comesBefore 4 = .ok (.ifCond .ne 20, 3) := by decide +kernel
theorem dX4_comesBefore_7 : decode cX4_comesBefore 7 = .ok (.aload_n 1, 1) := by decide +kernel
theorem dX4_comesBefore_8 : decode cX4_comesBefore 8 = .ok (.invokevirtual 93, 3) := by decide +kernel
theorem dX4_comesBefore_11 : decode cX4_comesBefore 11 = .ok (.ifCond .ne 11, 3) := by decide +kernel
theorem dX4_comesBefore_14 : decode cX4_comesBefore 14 = .ok (.iload_n 2, 1) := by decide +kernel
theorem dX4_comesBefore_15 : decode cX4_comesBefore 15 = .ok (.ifCond .eq 7, 3) := by decide +kernel
theorem dX4_comesBefore_18 : decode cX4_comesBefore 18 = .ok (.iconst 1, 1) := by decide +kernel
theorem dX4_comesBefore_19 : decode cX4_comesBefore 19 = .ok (.goto 4, 3) := by decide +kernel
theorem dX4_comesBefore_22 : decode cX4_comesBefore 22 = .ok (.iconst 0, 1) := by decide +kernel
theorem dX4_comesBefore_23 : decode cX4_comesBefore 23 = .ok (.ireturn, 1) := by decide +kernel
theorem dX4_comesBefore_24 : decode cX4_comesBefore 24 = .ok (.aload_n 1, 1) := by decide +kernel
theorem dX4_comesBefore_25 : decode cX4_comesBefore 25 = .ok (.invokevirtual 93, 3) := by decide +kernel
theorem dX4_comesBefore_28 : decode cX4_comesBefore 28 = .ok (.ifCond .ne 5, 3) := by decide +kernel
theorem dX4_comesBefore_31 : decode cX4_comesBefore 31 = .ok (.iconst 1, 1) := by decide +kernel
theorem dX4_comesBefore_32 : decode cX4_comesBefore 32 = .ok (.ireturn, 1) := by decide +kernel
theorem dX4_comesBefore_33 : decode cX4_comesBefore 33 = .ok (.iload_n 2, 1) := by decide +kernel
theorem dX4_comesBefore_34 : decode cX4_comesBefore 34 = .ok (.ifCond .eq 7, 3) := by decide +kernel
theorem dX4_comesBefore_37 : decode cX4_comesBefore 37 = .ok (.iconst 3, 1) := by decide +kernel
theorem dX4_comesBefore_38 : decode cX4_comesBefore 38 = .ok (.goto 4, 3) := by decide +kernel
theorem dX4_comesBefore_41 : decode cX4_comesBefore 41 = .ok (.iconst 2, 1) := by decide +kernel
theorem dX4_comesBefore_42 : decode cX4_comesBefore 42 = .ok (.istore_n 3, 1) := by decide +kernel
theorem dX4_comesBefore_43 : decode cX4_comesBefore 43 = .ok (.aload_n 0, 1) := by decide +kernel
theorem dX4_comesBefore_44 : decode cX4_comesBefore 44 = .ok (.aload_n 0, 1) := by decide +kernel
theorem dX4_comesBefore_45 : decode cX4_comesBefore 45 = .ok (.getfield 103, 3) := by decide +kernel
theorem dX4_comesBefore_48 : decode cX4_comesBefore 48 = .ok (.iload_n 3, 1) := by decide +kernel
theorem dX4_comesBefore_49 : decode cX4_comesBefore 49 = .ok (.aload_n 1, 1) := by decide +kernel
theorem dX4_comesBefore_50 : decode cX4_comesBefore 50 = .ok (.aload_n 1, 1) := by decide +kernel
theorem dX4_comesBefore_51 : decode cX4_comesBefore 51 = .ok (.getfield 103, 3) := by decide +kernel
theorem dX4_comesBefore_54 : decode cX4_comesBefore 54 = .ok (.invokevirtual 118, 3) := by decide +kernel
theorem dX4_comesBefore_57 : decode cX4_comesBefore 57 = .ok (.ireturn, 1) := by decide +kernel
theorem dX4_countGauges_0 : decode cX4_countGauges 0 = .ok (.iconst 0, 1) := by decide +kernel
theorem dX4_countGauges_1 : decode cX4_countGauges 1 = .ok (.istore_n 1, 1) := by decide +kernel
theorem dX4_countGauges_2 : decode cX4_countGauges 2 = .ok (.iconst 0, 1) := by decide +kernel
theorem dX4_countGauges_3 : decode cX4_countGauges 3 = .ok (.istore_n 2, 1) := by decide +kernel
theorem dX4_countGauges_4 : decode cX4_countGauges 4 = .ok (.iload_n 2, 1) := by decide +kernel
theorem dX4_countGauges_5 : decode cX4_countGauges 5 = .ok (.aload_n 0, 1) := by decide +kernel
theorem dX4_countGauges_6 : decode cX4_countGauges 6 = .ok (.getfield 11, 3) := by decide +kernel
theorem dX4_countGauges_9 : decode cX4_countGauges 9 = .ok (.arraylength, 1) := by decide +kernel
theorem dX4_countGauges_10 : decode cX4_countGauges 10 = .ok (.if_icmp .ge 21, 3) := by decide +kernel
theorem dX4_countGauges_13 : decode cX4_countGauges 13 = .ok (.aload_n 0, 1) := by decide +kernel
theorem dX4_countGauges_14 : decode cX4_countGauges 14 = .ok (.getfield 11, 3) := by decide +kernel
theorem dX4_countGauges_17 : decode cX4_countGauges 17 = .ok (.iload_n 2, 1) := by decide +kernel
theorem dX4_countGauges_18 : decode cX4_countGauges 18 = .ok (.aaload, 1) := by decide +kernel
theorem dX4_countGauges_19 : decode cX4_countGauges 19 = .ok (.ifnull 6, 3) := by decide +kernel
theorem dX4_countGauges_22 : decode cX4_countGauges 22 = .ok (.iinc 1 1, 3) := by decide +kernel
theorem dX4_countGauges_25 : decode cX4_countGauges 25 = .ok (.iinc 2 1, 3) := by decide +kernel
theorem dX4_countGauges_28 : decode cX4_countGauges 28 = .ok (.goto (-24), 3) := by decide +kernel
theorem dX4_countGauges_31 : decode cX4_countGauges 31 = .ok (.iload_n 1, 1) := by decide +kernel
theorem dX4_countGauges_32 : decode cX4_countGauges 32 = .ok (.ireturn, 1) := by decide +kernel
theorem dX4_countTripped_0 : decode cX4_countTripped 0 = .ok (.iconst 0, 1) := by decide +kernel
theorem dX4_countTripped_1 : decode cX4_countTripped 1 = .ok (.istore_n 1, 1) := by decide +kernel
theorem dX4_countTripped_2 : decode cX4_countTripped 2 = .ok (.iconst 0, 1) := by decide +kernel
theorem dX4_countTripped_3 : decode cX4_countTripped 3 = .ok (.istore_n 2, 1) := by decide +kernel
theorem dX4_countTripped_4 : decode cX4_countTripped 4 = .ok (.iload_n 2, 1) := by decide +kernel
theorem dX4_countTripped_5 : decode cX4_countTripped 5 = .ok (.aload_n 0, 1) := by decide +kernel
theorem dX4_countTripped_6 : decode cX4_countTripped 6 = .ok (.getfield 23, 3) := by decide +kernel
theorem dX4_countTripped_9 : decode cX4_countTripped 9 = .ok (.arraylength, 1) := by decide +kernel
theorem dX4_countTripped_10 : decode cX4_countTripped 10 = .ok (.if_icmp .ge 30, 3) := by decide +kernel
theorem dX4_countTripped_13 : decode cX4_countTripped 13 = .ok (.aload_n 0, 1) := by decide +kernel
theorem dX4_countTripped_14 : decode cX4_countTripped 14 = .ok (.getfield 23, 3) := by decide +kernel
theorem dX4_countTripped_17 : decode cX4_countTripped 17 = .ok (.iload_n 2, 1) := by decide +kernel
theorem dX4_countTripped_18 : decode cX4_countTripped 18 = .ok (.aaload, 1) := by decide +kernel
theorem dX4_countTripped_19 : decode cX4_countTripped 19 = .ok (.astore_n 3, 1) := by decide +kernel
theorem dX4_countTripped_20 : decode cX4_countTripped 20 = .ok (.aload_n 3, 1) := by decide +kernel
theorem dX4_countTripped_21 : decode cX4_countTripped 21 = .ok (.ifnull 13, 3) := by decide +kernel
theorem dX4_countTripped_24 : decode cX4_countTripped 24 = .ok (.aload_n 3, 1) := by decide +kernel
theorem dX4_countTripped_25 : decode cX4_countTripped 25 = .ok (.getfield 149, 3) := by decide +kernel
theorem dX4_countTripped_28 : decode cX4_countTripped 28 = .ok (.ifCond .eq 6, 3) := by decide +kernel
theorem dX4_countTripped_31 : decode cX4_countTripped 31 = .ok (.iinc 1 1, 3) := by decide +kernel
theorem dX4_countTripped_34 : decode cX4_countTripped 34 = .ok (.iinc 2 1, 3) := by decide +kernel
theorem dX4_countTripped_37 : decode cX4_countTripped 37 = .ok (.goto (-33), 3) := by decide +kernel
theorem dX4_countTripped_40 : decode cX4_countTripped 40 = .ok (.iload_n 1, 1) := by decide +kernel
theorem dX4_countTripped_41 : decode cX4_countTripped 41 = .ok (.ireturn, 1) := by decide +kernel
