set_option maxRecDepth 20000 in
theorem ggX6_init_X0_init : GoodIn wsX6_init wsX0_init := goodIn_r _ [26, 27, 2, 3, 28, 29, 30, 31, 32, 33, 65, 66, 67, 68, 69] (by decide +kernel) (by decide +kernel)
set_option maxRecDepth 20000 in
theorem gX6_init_X0_init_n9 : GoodIn wsX6_init (wsX0_init) := ggX6_init_X0_init
set_option maxRecDepth 20000 in
theorem ggX6_init_X4_init : GoodIn wsX6_init wsX4_init := goodIn_r _ [35, 36, 2, 3, 30, 37, 28, 38, 78, 79, 80] (by decide +kernel) (by decide +kernel)
set_option maxRecDepth 20000 in
theorem gX6_init_X4_init_n18 : GoodIn wsX6_init (wsX4_init) := ggX6_init_X4_init
set_option maxRecDepth 20000 in
theorem ggX6_init_X2_init : GoodIn wsX6_init wsX2_init := goodIn_r _ [40, 41, 2, 3, 42, 43, 44, 45, 30, 46, 47, 48, 49, 50, 28, 51, 94, 95, 96, 97, 98, 99, 100, 101, 102, 103, 104, 105, 81, 82, 83, 84] (by decide +kernel) (by decide +kernel)
set_option maxRecDepth 20000 in
theorem gX6_init_X2_init_n25 : GoodIn wsX6_init (wsX2_init) := ggX6_init_X2_init
set_option maxRecDepth 20000 in
theorem ggX6_init_X5_init : GoodIn wsX6_init wsX5_init := goodIn_r _ [54, 55, 2, 3, 56, 57, 43, 44, 47, 48, 49, 30, 50, 28, 51, 85, 86, 87, 94, 95, 96, 97, 98, 99, 100, 101, 102, 103, 104, 105] (by decide +kernel) (by decide +kernel)
set_option maxRecDepth 20000 in
theorem gX6_init_X5_init : GoodIn wsX6_init (wsX5_init) := ggX6_init_X5_init
set_option maxRecDepth 20000 in
theorem ggX6_init_X3_init : GoodIn wsX6_init wsX3_init := goodIn_r _ [59, 60, 2, 3, 30, 61, 62, 63, 64, 88, 89, 90, 91, 92, 93] (by decide +kernel) (by decide +kernel)
set_option maxRecDepth 20000 in
theorem gX6_init_X3_init_n39 : GoodIn wsX6_init (wsX3_init) := ggX6_init_X3_init
theorem dX6_init_0 : decode cX6_init 0 = .ok (.aload_n 0, 1) := by decide +kernel
theorem dX6_init_1 : decode cX6_init 1 = .ok (.invokespecial 1, 3) := by decide +kernel
theorem dX6_init_4 : decode cX6_init 4 = .ok (.aload_n 0, 1) := by decide +kernel
theorem dX6_init_5 : decode cX6_init 5 = .ok (.new 7, 3) := by decide +kernel
theorem dX6_init_8 : decode cX6_init 8 = .ok (.dup, 1) := by decide +kernel
theorem dX6_init_9 : decode cX6_init 9 = .ok (.invokespecial 9, 3) := by decide +kernel
theorem dX6_init_12 : decode cX6_init 12 = .ok (.putfield 10, 3) := by decide +kernel
theorem dX6_init_15 : decode cX6_init 15 = .ok (.aload_n 0, 1) := by decide +kernel
theorem dX6_init_16 : decode cX6_init 16 = .ok (.new 16, 3) := by decide +kernel
theorem dX6_init_19 : decode cX6_init 19 = .ok (.dup, 1) := by decide +kernel
theorem dX6_init_20 : decode cX6_init 20 = .ok (.invokespecial 18, 3) := by decide +kernel
theorem dX6_init_23 : decode cX6_init 23 = .ok (.putfield 19, 3) := by decide +kernel
theorem dX6_init_26 : decode cX6_init 26 = .ok (.aload_n 0, 1) := by decide +kernel
theorem dX6_init_27 : decode cX6_init 27 = .ok (.new 23, 3) := by decide +kernel
theorem dX6_init_30 : decode cX6_init 30 = .ok (.dup, 1) := by decide +kernel
theorem dX6_init_31 : decode cX6_init 31 = .ok (.invokespecial 25, 3) := by decide +kernel
theorem dX6_init_34 : decode cX6_init 34 = .ok (.putfield 26, 3) := by decide +kernel
theorem dX6_init_37 : decode cX6_init 37 = .ok (.aload_n 0, 1) := by decide +kernel
theorem dX6_init_38 : decode cX6_init 38 = .ok (.new 30, 3) := by decide +kernel
theorem dX6_init_41 : decode cX6_init 41 = .ok (.dup, 1) := by decide +kernel
theorem dX6_init_42 : decode cX6_init 42 = .ok (.invokespecial 32, 3) := by decide +kernel
theorem dX6_init_45 : decode cX6_init 45 = .ok (.putfield 33, 3) := by decide +kernel
theorem dX6_init_48 : decode cX6_init 48 = .ok (.aload_n 0, 1) := by decide +kernel
theorem dX6_init_49 : decode cX6_init 49 = .ok (.new 37, 3) := by decide +kernel
theorem dX6_init_52 : decode cX6_init 52 = .ok (.dup, 1) := by decide +kernel
theorem dX6_init_53 : decode cX6_init 53 = .ok (.invokespecial 39, 3) := by decide +kernel
theorem dX6_init_56 : decode cX6_init 56 = .ok (.putfield 40, 3) := by decide +kernel
theorem dX6_init_59 : decode cX6_init 59 = .ok (.aload_n 0, 1) := by decide +kernel
theorem dX6_init_60 : decode cX6_init 60 = .ok (.iconst 1, 1) := by decide +kernel
theorem dX6_init_61 : decode cX6_init 61 = .ok (.putfield 44, 3) := by decide +kernel
theorem dX6_init_64 : decode cX6_init 64 = .ok (.return_, 1) := by decide +kernel
set_option maxRecDepth 20000 in
theorem ggX6_account_X6_isAmount : GoodIn wsX6_account wsX6_isAmount := goodIn_r _ [6, 7] (by decide +kernel) (by decide +kernel)
set_option maxRecDepth 20000 in
theorem gX6_account_X6_isAmount : GoodIn wsX6_account (va_wsS RX6 48 yX6_isAmount wsX6_isAmount) := goodIn_app (goodIn_of _ (by decide +kernel)) ggX6_account_X6_isAmount
set_option maxRecDepth 20000 in
theorem ggX6_account_X6_isLock : GoodIn wsX6_account wsX6_isLock := goodIn_r _ [10, 11, 12, 13, 14, 15, 16, 17, 18] (by decide +kernel) (by decide +kernel)
set_option maxRecDepth 20000 in
theorem gX6_account_X6_isLock : GoodIn wsX6_account (va_wsS RX6 52 yX6_isLock wsX6_isLock) := goodIn_app (goodIn_of _ (by decide +kernel)) ggX6_account_X6_isLock
set_option maxRecDepth 20000 in
theorem ggX6_account_X0_open : GoodIn wsX6_account wsX0_open := goodIn_r _ [23, 24, 25, 26, 27, 28, 22, 29, 30, 31, 40, 41, 42, 43, 44] (by decide +kernel) (by decide +kernel)
set_option maxRecDepth 20000 in
theorem gX6_account_X0_open : GoodIn wsX6_account (wsV RX6 59 RX0 yX0_open wsX0_open) := goodIn_app (goodIn_of _ (by decide +kernel)) ggX6_account_X0_open
theorem dX6_account_0 : decode cX6_account 0 = .ok (.lload_n 1, 1) := by decide +kernel
theorem dX6_account_1 : decode cX6_account 1 = .ok (.invokestatic 48, 3) := by decide +kernel
theorem dX6_account_4 : decode cX6_account 4 = .ok (.ifCond .eq 12, 3) := by decide +kernel
theorem dX6_account_7 : decode cX6_account 7 = .ok (.iload_n 3, 1) := by decide +kernel
theorem dX6_account_8 : decode cX6_account 8 = .ok (.iload 4, 2) := by decide +kernel
theorem dX6_account_10 : decode cX6_account 10 = .ok (.invokestatic 52, 3) := by decide +kernel
theorem dX6_account_13 : decode cX6_account 13 = .ok (.ifCond .ne 5, 3) := by decide +kernel
theorem dX6_account_16 : decode cX6_account 16 = .ok (.iconst (-1), 1) := by decide +kernel
theorem dX6_account_17 : decode cX6_account 17 = .ok (.ireturn, 1) := by decide +kernel
theorem dX6_account_18 : decode cX6_account 18 = .ok (.aload_n 0, 1) := by decide +kernel
theorem dX6_account_19 : decode cX6_account 19 = .ok (.getfield 10, 3) := by decide +kernel
theorem dX6_account_22 : decode cX6_account 22 = .ok (.getfield 56, 3) := by decide +kernel
theorem dX6_account_25 : decode cX6_account 25 = .ok (.bipush 12, 2) := by decide +kernel
theorem dX6_account_27 : decode cX6_account 27 = .ok (.if_icmp .lt 6, 3) := by decide +kernel
theorem dX6_account_30 : decode cX6_account 30 = .ok (.bipush (-3), 2) := by decide +kernel
theorem dX6_account_32 : decode cX6_account 32 = .ok (.ireturn, 1) := by decide +kernel
theorem dX6_account_33 : decode cX6_account 33 = .ok (.aload_n 0, 1) := by decide +kernel
theorem dX6_account_34 : decode cX6_account 34 = .ok (.getfield 10, 3) := by decide +kernel
theorem dX6_account_37 : decode cX6_account 37 = .ok (.lload_n 1, 1) := by decide +kernel
theorem dX6_account_38 : decode cX6_account 38 = .ok (.iload_n 3, 1) := by decide +kernel
theorem dX6_account_39 : decode cX6_account 39 = .ok (.iload 4, 2) := by decide +kernel
theorem dX6_account_41 : decode cX6_account 41 = .ok (.invokevirtual 59, 3) := by decide +kernel
theorem dX6_account_44 : decode cX6_account 44 = .ok (.ireturn, 1) := by decide +kernel
set_option maxRecDepth 20000 in
theorem ggX6_lock_X0_has : GoodIn wsX6_lock wsX0_has := goodIn_r _ [6, 7, 34, 35, 36, 37, 38] (by decide +kernel) (by decide +kernel)
set_option maxRecDepth 20000 in
theorem gX6_lock_X0_has : GoodIn wsX6_lock (wsV RX6 63 RX0 yX0_has wsX0_has) := goodIn_app (goodIn_of _ (by decide +kernel)) ggX6_lock_X0_has
set_option maxRecDepth 20000 in
theorem ggX6_lock_X6_isLock : GoodIn wsX6_lock wsX6_isLock := goodIn_r _ [11, 12, 13, 14, 15, 16, 17, 18, 19] (by decide +kernel) (by decide +kernel)
set_option maxRecDepth 20000 in
theorem gX6_lock_X6_isLock : GoodIn wsX6_lock (va_wsS RX6 52 yX6_isLock wsX6_isLock) := goodIn_app (goodIn_of _ (by decide +kernel)) ggX6_lock_X6_isLock
set_option maxRecDepth 20000 in
theorem ggX6_lock_X0_setLock : GoodIn wsX6_lock wsX0_setLock := goodIn_r _ [23, 24, 25, 34, 35, 36, 37, 38] (by decide +kernel) (by decide +kernel)
set_option maxRecDepth 20000 in
theorem gX6_lock_X0_setLock : GoodIn wsX6_lock (wsV RX6 67 RX0 yX0_setLock wsX0_setLock) := goodIn_app (goodIn_of _ (by decide +kernel)) ggX6_lock_X0_setLock
theorem dX6_lock_0 : decode cX6_lock 0 = .ok (.aload_n 0, 1) := by decide +kernel
theorem dX6_lock_1 : decode cX6_lock 1 = .ok (.getfield 10, 3) := by decide +kernel
theorem dX6_lock_4 : decode cX6_lock 4 = .ok (.iload_n 1, 1) := by decide +kernel
theorem dX6_lock_5 : decode cX6_lock 5 = .ok (.invokevirtual 63, 3) := by decide +kernel
theorem dX6_lock_8 : decode cX6_lock 8 = .ok (.ifCond .eq 11, 3) := by decide +kernel
theorem dX6_lock_11 : decode cX6_lock 11 = .ok (.iload_n 2, 1) := by decide +kernel
theorem dX6_lock_12 : decode cX6_lock 12 = .ok (.iload_n 3, 1) := by decide +kernel
theorem dX6_lock_13 : decode cX6_lock 13 = .ok (.invokestatic 52, 3) := by decide +kernel
theorem dX6_lock_16 : decode cX6_lock 16 = .ok (.ifCond .ne 5, 3) := by decide +kernel
theorem dX6_lock_19 : decode cX6_lock 19 = .ok (.iconst (-1), 1) := by decide +kernel
theorem dX6_lock_20 : decode cX6_lock 20 = .ok (.ireturn, 1) := by decide +kernel
theorem dX6_lock_21 : decode cX6_lock 21 = .ok (.aload_n 0, 1) := by decide +kernel
theorem dX6_lock_22 : decode cX6_lock 22 = .ok (.getfield 10, 3) := by decide +kernel
theorem dX6_lock_25 : decode cX6_lock 25 = .ok (.iload_n 1, 1) := by decide +kernel
theorem dX6_lock_26 : decode cX6_lock 26 = .ok (.iload_n 2, 1) := by decide +kernel
theorem dX6_lock_27 : decode cX6_lock 27 = .ok (.iload_n 3, 1) := by decide +kernel
theorem dX6_lock_28 : decode cX6_lock 28 = .ok (.invokevirtual 67, 3) := by decide +kernel
theorem dX6_lock_31 : decode cX6_lock 31 = .ok (.iconst 1, 1) := by decide +kernel
theorem dX6_lock_32 : decode cX6_lock 32 = .ok (.ireturn, 1) := by decide +kernel
set_option maxRecDepth 20000 in
theorem ggX6_funds_X0_has : GoodIn wsX6_funds wsX0_has := goodIn_r _ [8, 9, 18, 19, 20, 21, 22] (by decide +kernel) (by decide +kernel)
set_option maxRecDepth 20000 in
theorem gX6_funds_X0_has : GoodIn wsX6_funds (wsV RX6 63 RX0 yX0_has wsX0_has) := goodIn_app (goodIn_of _ (by decide +kernel)) ggX6_funds_X0_has
theorem dX6_funds_0 : decode cX6_funds 0 = .ok (.aload_n 0, 1) := by decide +kernel
theorem dX6_funds_1 : decode cX6_funds 1 = .ok (.getfield 10, 3) := by decide +kernel
theorem dX6_funds_4 : decode cX6_funds 4 = .ok (.iload_n 1, 1) := by decide +kernel
theorem dX6_funds_5 : decode cX6_funds 5 = .ok (.invokevirtual 63, 3) := by decide +kernel
theorem dX6_funds_8 : decode cX6_funds 8 = .ok (.ifCond .eq 15, 3) := by decide +kernel
theorem dX6_funds_11 : decode cX6_funds 11 = .ok (.aload_n 0, 1) := by decide +kernel
theorem dX6_funds_12 : decode cX6_funds 12 = .ok (.getfield 10, 3) := by decide +kernel
theorem dX6_funds_15 : decode cX6_funds 15 = .ok (.getfield 71, 3) := by decide +kernel
theorem dX6_funds_18 : decode cX6_funds 18 = .ok (.iload_n 1, 1) := by decide +kernel
theorem dX6_funds_19 : decode cX6_funds 19 = .ok (.laload, 1) := by decide +kernel
theorem dX6_funds_20 : decode cX6_funds 20 = .ok (.goto 6, 3) := by decide +kernel
theorem dX6_funds_23 : decode cX6_funds 23 = .ok (.ldc2_w 75, 3) := by decide +kernel
theorem dX6_funds_26 : decode cX6_funds 26 = .ok (.lreturn, 1) := by decide +kernel
set_option maxRecDepth 20000 in
theorem ggX6_next_X0_has : GoodIn wsX6_next wsX0_has := goodIn_r _ [7, 8, 17, 18, 19, 20, 21] (by decide +kernel) (by decide +kernel)
set_option maxRecDepth 20000 in
theorem gX6_next_X0_has : GoodIn wsX6_next (wsV RX6 63 RX0 yX0_has wsX0_has) := goodIn_app (goodIn_of _ (by decide +kernel)) ggX6_next_X0_has
theorem dX6_next_0 : decode cX6_next 0 = .ok (.aload_n 0, 1) := by decide +kernel
theorem dX6_next_1 : decode cX6_next 1 = .ok (.getfield 10, 3) := by decide +kernel
theorem dX6_next_4 : decode cX6_next 4 = .ok (.iload_n 1, 1) := by decide +kernel
theorem dX6_next_5 : decode cX6_next 5 = .ok (.invokevirtual 63, 3) := by decide +kernel
theorem dX6_next_8 : decode cX6_next 8 = .ok (.ifCond .eq 15, 3) := by decide +kernel
theorem dX6_next_11 : decode cX6_next 11 = .ok (.aload_n 0, 1) := by decide +kernel
theorem dX6_next_12 : decode cX6_next 12 = .ok (.getfield 10, 3) := by decide +kernel
theorem dX6_next_15 : decode cX6_next 15 = .ok (.getfield 77, 3) := by decide +kernel
theorem dX6_next_18 : decode cX6_next 18 = .ok (.iload_n 1, 1) := by decide +kernel
theorem dX6_next_19 : decode cX6_next 19 = .ok (.iaload, 1) := by decide +kernel
theorem dX6_next_20 : decode cX6_next 20 = .ok (.goto 4, 3) := by decide +kernel
theorem dX6_next_23 : decode cX6_next 23 = .ok (.iconst (-1), 1) := by decide +kernel
theorem dX6_next_24 : decode cX6_next 24 = .ok (.ireturn, 1) := by decide +kernel
set_option maxRecDepth 20000 in
theorem ggX6_sign_X4_keep : GoodIn wsX6_sign wsX4_keep := goodIn_r _ [7, 8, 9, 10, 19, 20, 21] (by decide +kernel) (by decide +kernel)
set_option maxRecDepth 20000 in
theorem gX6_sign_X4_keep : GoodIn wsX6_sign (wsV RX6 82 RX4 yX4_keep wsX4_keep) := goodIn_app (goodIn_of _ (by decide +kernel)) ggX6_sign_X4_keep
theorem dX6_sign_0 : decode cX6_sign 0 = .ok (.iload_n 1, 1) := by decide +kernel
theorem dX6_sign_1 : decode cX6_sign 1 = .ok (.ifCond .lt 9, 3) := by decide +kernel
theorem dX6_sign_4 : decode cX6_sign 4 = .ok (.iload_n 1, 1) := by decide +kernel
theorem dX6_sign_5 : decode cX6_sign 5 = .ok (.bipush 16, 2) := by decide +kernel
theorem dX6_sign_7 : decode cX6_sign 7 = .ok (.if_icmp .lt 5, 3) := by decide +kernel
theorem dX6_sign_10 : decode cX6_sign 10 = .ok (.iconst (-1), 1) := by decide +kernel
theorem dX6_sign_11 : decode cX6_sign 11 = .ok (.ireturn, 1) := by decide +kernel
theorem dX6_sign_12 : decode cX6_sign 12 = .ok (.aload_n 0, 1) := by decide +kernel
theorem dX6_sign_13 : decode cX6_sign 13 = .ok (.getfield 19, 3) := by decide +kernel
theorem dX6_sign_16 : decode cX6_sign 16 = .ok (.getfield 81, 3) := by decide +kernel
theorem dX6_sign_19 : decode cX6_sign 19 = .ok (.sipush 200, 3) := by decide +kernel
theorem dX6_sign_22 : decode cX6_sign 22 = .ok (.if_icmp .lt 6, 3) := by decide +kernel
theorem dX6_sign_25 : decode cX6_sign 25 = .ok (.bipush (-3), 2) := by decide +kernel
theorem dX6_sign_27 : decode cX6_sign 27 = .ok (.ireturn, 1) := by decide +kernel
theorem dX6_sign_28 : decode cX6_sign 28 = .ok (.aload_n 0, 1) := by decide +kernel
theorem dX6_sign_29 : decode cX6_sign 29 = .ok (.getfield 19, 3) := by decide +kernel
theorem dX6_sign_32 : decode cX6_sign 32 = .ok (.iload_n 1, 1) := by decide +kernel
theorem dX6_sign_33 : decode cX6_sign 33 = .ok (.lload_n 2, 1) := by decide +kernel
theorem dX6_sign_34 : decode cX6_sign 34 = .ok (.invokevirtual 82, 3) := by decide +kernel
theorem dX6_sign_37 : decode cX6_sign 37 = .ok (.ireturn, 1) := by decide +kernel
set_option maxRecDepth 20000 in
theorem ggX6_draft_X0_has : GoodIn wsX6_draft wsX0_has := goodIn_r _ [8, 9, 40, 41, 42, 43, 44] (by decide +kernel) (by decide +kernel)
set_option maxRecDepth 20000 in
theorem gX6_draft_X0_has : GoodIn wsX6_draft (wsV RX6 63 RX0 yX0_has wsX0_has) := goodIn_app (goodIn_of _ (by decide +kernel)) ggX6_draft_X0_has
set_option maxRecDepth 20000 in
theorem ggX6_draft_X2_begin : GoodIn wsX6_draft wsX2_begin := goodIn_r _ [14, 15, 16, 17, 18, 19, 20, 21, 22, 23, 24, 25, 26, 27, 28, 29, 30, 31, 45, 46, 47, 48, 49, 50, 51, 52, 53, 54, 55, 56, 57, 58, 59, 60] (by decide +kernel) (by decide +kernel)
set_option maxRecDepth 20000 in
theorem gX6_draft_X2_begin : GoodIn wsX6_draft (wsV RX6 87 RX2 yX2_begin wsX2_begin) := goodIn_app (goodIn_of _ (by decide +kernel)) ggX6_draft_X2_begin
theorem dX6_draft_0 : decode cX6_draft 0 = .ok (.aload_n 0, 1) := by decide +kernel
theorem dX6_draft_1 : decode cX6_draft 1 = .ok (.getfield 10, 3) := by decide +kernel
theorem dX6_draft_4 : decode cX6_draft 4 = .ok (.iload_n 1, 1) := by decide +kernel
theorem dX6_draft_5 : decode cX6_draft 5 = .ok (.invokevirtual 63, 3) := by decide +kernel
theorem dX6_draft_8 : decode cX6_draft 8 = .ok (.ifCond .eq 14, 3) := by decide +kernel
theorem dX6_draft_11 : decode cX6_draft 11 = .ok (.iload_n 2, 1) := by decide +kernel
theorem dX6_draft_12 : decode cX6_draft 12 = .ok (.ifCond .lt 10, 3) := by decide +kernel
theorem dX6_draft_15 : decode cX6_draft 15 = .ok (.iload_n 2, 1) := by decide +kernel
theorem dX6_draft_16 : decode cX6_draft 16 = .ok (.sipush 999, 3) := by decide +kernel
theorem dX6_draft_19 : decode cX6_draft 19 = .ok (.if_icmp .le 5, 3) := by decide +kernel
theorem dX6_draft_22 : decode cX6_draft 22 = .ok (.iconst (-1), 1) := by decide +kernel
theorem dX6_draft_23 : decode cX6_draft 23 = .ok (.ireturn, 1) := by decide +kernel
theorem dX6_draft_24 : decode cX6_draft 24 = .ok (.iload_n 3, 1) := by decide +kernel
theorem dX6_draft_25 : decode cX6_draft 25 = .ok (.ifCond .lt 24, 3) := by decide +kernel
theorem dX6_draft_28 : decode cX6_draft 28 = .ok (.iload_n 3, 1) := by decide +kernel
theorem dX6_draft_29 : decode cX6_draft 29 = .ok (.ldc 86, 2) := by decide +kernel
theorem dX6_draft_31 : decode cX6_draft 31 = .ok (.if_icmp .gt 18, 3) := by decide +kernel
theorem dX6_draft_34 : decode cX6_draft 34 = .ok (.iload 4, 2) := by decide +kernel
theorem dX6_draft_36 : decode cX6_draft 36 = .ok (.bipush 10, 2) := by decide +kernel
theorem dX6_draft_38 : decode cX6_draft 38 = .ok (.if_icmp .lt 11, 3) := by decide +kernel
theorem dX6_draft_41 : decode cX6_draft 41 = .ok (.iload 4, 2) := by decide +kernel
theorem dX6_draft_43 : decode cX6_draft 43 = .ok (.sipush 1000, 3) := by decide +kernel
theorem dX6_draft_46 : decode cX6_draft 46 = .ok (.if_icmp .le 5, 3) := by decide +kernel
theorem dX6_draft_49 : decode cX6_draft 49 = .ok (.iconst (-1), 1) := by decide +kernel
theorem dX6_draft_50 : decode cX6_draft 50 = .ok (.ireturn, 1) := by decide +kernel
theorem dX6_draft_51 : decode cX6_draft 51 = .ok (.aload_n 0, 1) := by decide +kernel
theorem dX6_draft_52 : decode cX6_draft 52 = .ok (.getfield 26, 3) := by decide +kernel
theorem dX6_draft_55 : decode cX6_draft 55 = .ok (.iload_n 1, 1) := by decide +kernel
theorem dX6_draft_56 : decode cX6_draft 56 = .ok (.iload_n 2, 1) := by decide +kernel
theorem dX6_draft_57 : decode cX6_draft 57 = .ok (.iload_n 3, 1) := by decide +kernel
theorem dX6_draft_58 : decode cX6_draft 58 = .ok (.iload 4, 2) := by decide +kernel
theorem dX6_draft_60 : decode cX6_draft 60 = .ok (.invokevirtual 87, 3) := by decide +kernel
theorem dX6_draft_63 : decode cX6_draft 63 = .ok (.iconst 1, 1) := by decide +kernel
theorem dX6_draft_64 : decode cX6_draft 64 = .ok (.ireturn, 1) := by decide +kernel
set_option maxRecDepth 20000 in
theorem ggX6_until_X6_isHeight : GoodIn wsX6_until wsX6_isHeight := goodIn_r _ [8, 9] (by decide +kernel) (by decide +kernel)
set_option maxRecDepth 20000 in
theorem gX6_until_X6_isHeight : GoodIn wsX6_until (va_wsS RX6 91 yX6_isHeight wsX6_isHeight) := goodIn_app (goodIn_of _ (by decide +kernel)) ggX6_until_X6_isHeight
theorem dX6_until_0 : decode cX6_until 0 = .ok (.iload_n 1, 1) := by decide +kernel
theorem dX6_until_1 : decode cX6_until 1 = .ok (.invokestatic 91, 3) := by decide +kernel
theorem dX6_until_4 : decode cX6_until 4 = .ok (.ifCond .ne 5, 3) := by decide +kernel
theorem dX6_until_7 : decode cX6_until 7 = .ok (.iconst (-1), 1) := by decide +kernel
theorem dX6_until_8 : decode cX6_until 8 = .ok (.ireturn, 1) := by decide +kernel
theorem dX6_until_9 : decode cX6_until 9 = .ok (.aload_n 0, 1) := by decide +kernel
theorem dX6_until_10 : decode cX6_until 10 = .ok (.getfield 26, 3) := by decide +kernel
theorem dX6_until_13 : decode cX6_until 13 = .ok (.getfield 94, 3) := by decide +kernel
theorem dX6_until_16 : decode cX6_until 16 = .ok (.ifCond .ne 6, 3) := by decide +kernel
theorem dX6_until_19 : decode cX6_until 19 = .ok (.bipush (-2), 2) := by decide +kernel
theorem dX6_until_21 : decode cX6_until 21 = .ok (.ireturn, 1) := by decide +kernel
theorem dX6_until_22 : decode cX6_until 22 = .ok (.aload_n 0, 1) := by decide +kernel
theorem dX6_until_23 : decode cX6_until 23 = .ok (.getfield 26, 3) := by decide +kernel
theorem dX6_until_26 : decode cX6_until 26 = .ok (.getfield 98, 3) := by decide +kernel
theorem dX6_until_29 : decode cX6_until 29 = .ok (.iload_n 1, 1) := by decide +kernel
theorem dX6_until_30 : decode cX6_until 30 = .ok (.putfield 102, 3) := by decide +kernel
theorem dX6_until_33 : decode cX6_until 33 = .ok (.iconst 1, 1) := by decide +kernel
theorem dX6_until_34 : decode cX6_until 34 = .ok (.ireturn, 1) := by decide +kernel
set_option maxRecDepth 20000 in
theorem ggX6_from_X6_isHeight : GoodIn wsX6_from wsX6_isHeight := goodIn_r _ [8, 9] (by decide +kernel) (by decide +kernel)
set_option maxRecDepth 20000 in
theorem gX6_from_X6_isHeight : GoodIn wsX6_from (va_wsS RX6 91 yX6_isHeight wsX6_isHeight) := goodIn_app (goodIn_of _ (by decide +kernel)) ggX6_from_X6_isHeight
theorem dX6_from_0 : decode cX6_from 0 = .ok (.iload_n 1, 1) := by decide +kernel
theorem dX6_from_1 : decode cX6_from 1 = .ok (.invokestatic 91, 3) := by decide +kernel
theorem dX6_from_4 : decode cX6_from 4 = .ok (.ifCond .ne 5, 3) := by decide +kernel
theorem dX6_from_7 : decode cX6_from 7 = .ok (.iconst (-1), 1) := by decide +kernel
theorem dX6_from_8 : decode cX6_from 8 = .ok (.ireturn, 1) := by decide +kernel
theorem dX6_from_9 : decode cX6_from 9 = .ok (.aload_n 0, 1) := by decide +kernel
theorem dX6_from_10 : decode cX6_from 10 = .ok (.getfield 26, 3) := by decide +kernel
theorem dX6_from_13 : decode cX6_from 13 = .ok (.getfield 94, 3) := by decide +kernel
theorem dX6_from_16 : decode cX6_from 16 = .ok (.ifCond .ne 6, 3) := by decide +kernel
theorem dX6_from_19 : decode cX6_from 19 = .ok (.bipush (-2), 2) := by decide +kernel
theorem dX6_from_21 : decode cX6_from 21 = .ok (.ireturn, 1) := by decide +kernel
theorem dX6_from_22 : decode cX6_from 22 = .ok (.aload_n 0, 1) := by decide +kernel
theorem dX6_from_23 : decode cX6_from 23 = .ok (.getfield 26, 3) := by decide +kernel
theorem dX6_from_26 : decode cX6_from 26 = .ok (.getfield 98, 3) := by decide +kernel
theorem dX6_from_29 : decode cX6_from 29 = .ok (.iload_n 1, 1) := by decide +kernel
theorem dX6_from_30 : decode cX6_from 30 = .ok (.putfield 107, 3) := by decide +kernel
theorem dX6_from_33 : decode cX6_from 33 = .ok (.iconst 1, 1) := by decide +kernel
theorem dX6_from_34 : decode cX6_from 34 = .ok (.ireturn, 1) := by decide +kernel
set_option maxRecDepth 20000 in
theorem ggX6_sponsor_X0_has : GoodIn wsX6_sponsor wsX0_has := goodIn_r _ [10, 11, 36, 37, 38, 39, 40] (by decide +kernel) (by decide +kernel)
set_option maxRecDepth 20000 in
theorem gX6_sponsor_X0_has : GoodIn wsX6_sponsor (wsV RX6 63 RX0 yX0_has wsX0_has) := goodIn_app (goodIn_of _ (by decide +kernel)) ggX6_sponsor_X0_has
theorem dX6_sponsor_0 : decode cX6_sponsor 0 = .ok (.iload_n 1, 1) := by decide +kernel
theorem dX6_sponsor_1 : decode cX6_sponsor 1 = .ok (.iconst (-1), 1) := by decide +kernel
theorem dX6_sponsor_2 : decode cX6_sponsor 2 = .ok (.if_icmp .eq 16, 3) := by decide +kernel
theorem dX6_sponsor_5 : decode cX6_sponsor 5 = .ok (.aload_n 0, 1) := by decide +kernel
theorem dX6_sponsor_6 : decode cX6_sponsor 6 = .ok (.getfield 10, 3) := by decide +kernel
theorem dX6_sponsor_9 : decode cX6_sponsor 9 = .ok (.iload_n 1, 1) := by decide +kernel
theorem dX6_sponsor_10 : decode cX6_sponsor 10 = .ok (.invokevirtual 63, 3) := by decide +kernel
theorem dX6_sponsor_13 : decode cX6_sponsor 13 = .ok (.ifCond .ne 5, 3) := by decide +kernel
theorem dX6_sponsor_16 : decode cX6_sponsor 16 = .ok (.iconst (-1), 1) := by decide +kernel
theorem dX6_sponsor_17 : decode cX6_sponsor 17 = .ok (.ireturn, 1) := by decide +kernel
theorem dX6_sponsor_18 : decode cX6_sponsor 18 = .ok (.aload_n 0, 1) := by decide +kernel
theorem dX6_sponsor_19 : decode cX6_sponsor 19 = .ok (.getfield 26, 3) := by decide +kernel
theorem dX6_sponsor_22 : decode cX6_sponsor 22 = .ok (.getfield 94, 3) := by decide +kernel
theorem dX6_sponsor_25 : decode cX6_sponsor 25 = .ok (.ifCond .ne 6, 3) := by decide +kernel
theorem dX6_sponsor_28 : decode cX6_sponsor 28 = .ok (.bipush (-2), 2) := by decide +kernel
theorem dX6_sponsor_30 : decode cX6_sponsor 30 = .ok (.ireturn, 1) := by decide +kernel
theorem dX6_sponsor_31 : decode cX6_sponsor 31 = .ok (.aload_n 0, 1) := by decide +kernel
theorem dX6_sponsor_32 : decode cX6_sponsor 32 = .ok (.getfield 26, 3) := by decide +kernel
theorem dX6_sponsor_35 : decode cX6_sponsor 35 = .ok (.getfield 98, 3) := by decide +kernel
theorem dX6_sponsor_38 : decode cX6_sponsor 38 = .ok (.iload_n 1, 1) := by decide +kernel
theorem dX6_sponsor_39 : decode cX6_sponsor 39 = .ok (.putfield 110, 3) := by decide +kernel
theorem dX6_sponsor_42 : decode cX6_sponsor 42 = .ok (.iconst 1, 1) := by decide +kernel
theorem dX6_sponsor_43 : decode cX6_sponsor 43 = .ok (.ireturn, 1) := by decide +kernel
set_option maxRecDepth 20000 in
theorem ggX6_act_X0_has : GoodIn wsX6_act wsX0_has := goodIn_r _ [10, 11, 49, 50, 51, 52, 53] (by decide +kernel) (by decide +kernel)
set_option maxRecDepth 20000 in
theorem gX6_act_X0_has : GoodIn wsX6_act (wsV RX6 63 RX0 yX0_has wsX0_has) := goodIn_app (goodIn_of _ (by decide +kernel)) ggX6_act_X0_has
set_option maxRecDepth 20000 in
theorem ggX6_act_X6_isAmount : GoodIn wsX6_act wsX6_isAmount := goodIn_r _ [15, 16] (by decide +kernel) (by decide +kernel)
set_option maxRecDepth 20000 in
theorem gX6_act_X6_isAmount : GoodIn wsX6_act (va_wsS RX6 48 yX6_isAmount wsX6_isAmount) := goodIn_app (goodIn_of _ (by decide +kernel)) ggX6_act_X6_isAmount
set_option maxRecDepth 20000 in
theorem ggX6_act_X1_append : GoodIn wsX6_act wsX1_append := goodIn_r _ [21, 22, 23, 24, 37, 38, 39, 40, 41, 42, 43, 44, 45, 46, 47, 48] (by decide +kernel) (by decide +kernel)
set_option maxRecDepth 20000 in
theorem gX6_act_X1_append : GoodIn wsX6_act (wsV RX6 116 RX1 yX1_append wsX1_append) := goodIn_app (goodIn_of _ (by decide +kernel)) ggX6_act_X1_append
theorem dX6_act_0 : decode cX6_act 0 = .ok (.aload_n 0, 1) := by decide +kernel
theorem dX6_act_1 : decode cX6_act 1 = .ok (.getfield 10, 3) := by decide +kernel
theorem dX6_act_4 : decode cX6_act 4 = .ok (.iload_n 1, 1) := by decide +kernel
theorem dX6_act_5 : decode cX6_act 5 = .ok (.invokevirtual 63, 3) := by decide +kernel
theorem dX6_act_8 : decode cX6_act 8 = .ok (.ifCond .eq 10, 3) := by decide +kernel
theorem dX6_act_11 : decode cX6_act 11 = .ok (.lload_n 2, 1) := by decide +kernel
theorem dX6_act_12 : decode cX6_act 12 = .ok (.invokestatic 48, 3) := by decide +kernel
theorem dX6_act_15 : decode cX6_act 15 = .ok (.ifCond .ne 5, 3) := by decide +kernel
theorem dX6_act_18 : decode cX6_act 18 = .ok (.iconst (-1), 1) := by decide +kernel
theorem dX6_act_19 : decode cX6_act 19 = .ok (.ireturn, 1) := by decide +kernel
theorem dX6_act_20 : decode cX6_act 20 = .ok (.aload_n 0, 1) := by decide +kernel
theorem dX6_act_21 : decode cX6_act 21 = .ok (.getfield 26, 3) := by decide +kernel
theorem dX6_act_24 : decode cX6_act 24 = .ok (.getfield 94, 3) := by decide +kernel
theorem dX6_act_27 : decode cX6_act 27 = .ok (.ifCond .ne 6, 3) := by decide +kernel
theorem dX6_act_30 : decode cX6_act 30 = .ok (.bipush (-2), 2) := by decide +kernel
theorem dX6_act_32 : decode cX6_act 32 = .ok (.ireturn, 1) := by decide +kernel
theorem dX6_act_33 : decode cX6_act 33 = .ok (.aload_n 0, 1) := by decide +kernel
theorem dX6_act_34 : decode cX6_act 34 = .ok (.getfield 26, 3) := by decide +kernel
theorem dX6_act_37 : decode cX6_act 37 = .ok (.getfield 98, 3) := by decide +kernel
theorem dX6_act_40 : decode cX6_act 40 = .ok (.getfield 113, 3) := by decide +kernel
theorem dX6_act_43 : decode cX6_act 43 = .ok (.iconst 4, 1) := by decide +kernel
theorem dX6_act_44 : decode cX6_act 44 = .ok (.if_icmp .lt 6, 3) := by decide +kernel
theorem dX6_act_47 : decode cX6_act 47 = .ok (.bipush (-3), 2) := by decide +kernel
theorem dX6_act_49 : decode cX6_act 49 = .ok (.ireturn, 1) := by decide +kernel
theorem dX6_act_50 : decode cX6_act 50 = .ok (.aload_n 0, 1) := by decide +kernel
theorem dX6_act_51 : decode cX6_act 51 = .ok (.getfield 26, 3) := by decide +kernel
theorem dX6_act_54 : decode cX6_act 54 = .ok (.getfield 98, 3) := by decide +kernel
theorem dX6_act_57 : decode cX6_act 57 = .ok (.iload_n 1, 1) := by decide +kernel
theorem dX6_act_58 : decode cX6_act 58 = .ok (.lload_n 2, 1) := by decide +kernel
theorem dX6_act_59 : decode cX6_act 59 = .ok (.invokevirtual 116, 3) := by decide +kernel
theorem dX6_act_62 : decode cX6_act 62 = .ok (.ireturn, 1) := by decide +kernel
set_option maxRecDepth 20000 in
theorem ggX6_add_X4_has : GoodIn wsX6_add wsX4_has := goodIn_r _ [9, 10, 30, 31, 32] (by decide +kernel) (by decide +kernel)
set_option maxRecDepth 20000 in
theorem gX6_add_X4_has : GoodIn wsX6_add (wsV RX6 119 RX4 yX4_has wsX4_has) := goodIn_app (goodIn_of _ (by decide +kernel)) ggX6_add_X4_has
set_option maxRecDepth 20000 in
theorem ggX6_add_X2_append : GoodIn wsX6_add wsX2_append := goodIn_r _ [15, 16, 17, 26, 27, 28, 29] (by decide +kernel) (by decide +kernel)
set_option maxRecDepth 20000 in
theorem gX6_add_X2_append : GoodIn wsX6_add (wsV RX6 123 RX2 yX2_append wsX2_append) := goodIn_app (goodIn_of _ (by decide +kernel)) ggX6_add_X2_append
theorem dX6_add_0 : decode cX6_add 0 = .ok (.aload_n 0, 1) := by decide +kernel
theorem dX6_add_1 : decode cX6_add 1 = .ok (.getfield 19, 3) := by decide +kernel
theorem dX6_add_4 : decode cX6_add 4 = .ok (.iload_n 1, 1) := by decide +kernel
theorem dX6_add_5 : decode cX6_add 5 = .ok (.invokevirtual 119, 3) := by decide +kernel
theorem dX6_add_8 : decode cX6_add 8 = .ok (.ifCond .ne 5, 3) := by decide +kernel
theorem dX6_add_11 : decode cX6_add 11 = .ok (.iconst (-1), 1) := by decide +kernel
theorem dX6_add_12 : decode cX6_add 12 = .ok (.ireturn, 1) := by decide +kernel
theorem dX6_add_13 : decode cX6_add 13 = .ok (.aload_n 0, 1) := by decide +kernel
theorem dX6_add_14 : decode cX6_add 14 = .ok (.getfield 26, 3) := by decide +kernel
theorem dX6_add_17 : decode cX6_add 17 = .ok (.getfield 94, 3) := by decide +kernel
theorem dX6_add_20 : decode cX6_add 20 = .ok (.ifCond .ne 6, 3) := by decide +kernel
theorem dX6_add_23 : decode cX6_add 23 = .ok (.bipush (-2), 2) := by decide +kernel
theorem dX6_add_25 : decode cX6_add 25 = .ok (.ireturn, 1) := by decide +kernel
theorem dX6_add_26 : decode cX6_add 26 = .ok (.aload_n 0, 1) := by decide +kernel
theorem dX6_add_27 : decode cX6_add 27 = .ok (.getfield 26, 3) := by decide +kernel
theorem dX6_add_30 : decode cX6_add 30 = .ok (.getfield 120, 3) := by decide +kernel
theorem dX6_add_33 : decode cX6_add 33 = .ok (.bipush 12, 2) := by decide +kernel
theorem dX6_add_35 : decode cX6_add 35 = .ok (.if_icmp .lt 6, 3) := by decide +kernel
theorem dX6_add_38 : decode cX6_add 38 = .ok (.bipush (-3), 2) := by decide +kernel
theorem dX6_add_40 : decode cX6_add 40 = .ok (.ireturn, 1) := by decide +kernel
theorem dX6_add_41 : decode cX6_add 41 = .ok (.aload_n 0, 1) := by decide +kernel
theorem dX6_add_42 : decode cX6_add 42 = .ok (.getfield 26, 3) := by decide +kernel
theorem dX6_add_45 : decode cX6_add 45 = .ok (.iload_n 1, 1) := by decide +kernel
theorem dX6_add_46 : decode cX6_add 46 = .ok (.invokevirtual 123, 3) := by decide +kernel
theorem dX6_add_49 : decode cX6_add 49 = .ok (.ireturn, 1) := by decide +kernel
set_option maxRecDepth 20000 in
theorem ggX6_digest_X1_computeDigest : GoodIn wsX6_digest wsX1_computeDigest := goodIn_r _ [8, 9, 10, 11, 12, 13, 14, 15, 16, 17, 18, 19, 20, 33, 34, 35, 36, 37, 38, 39, 40, 41, 42, 43, 44] (by decide +kernel) (by decide +kernel)
set_option maxRecDepth 20000 in
theorem gX6_digest_X1_computeDigest : GoodIn wsX6_digest (wsV RX6 126 RX1 yX1_computeDigest wsX1_computeDigest) := goodIn_app (goodIn_of _ (by decide +kernel)) ggX6_digest_X1_computeDigest
theorem dX6_digest_0 : decode cX6_digest 0 = .ok (.aload_n 0, 1) := by decide +kernel
theorem dX6_digest_1 : decode cX6_digest 1 = .ok (.getfield 26, 3) := by decide +kernel
theorem dX6_digest_4 : decode cX6_digest 4 = .ok (.getfield 94, 3) := by decide +kernel
theorem dX6_digest_7 : decode cX6_digest 7 = .ok (.ifCond .eq 16, 3) := by decide +kernel
theorem dX6_digest_10 : decode cX6_digest 10 = .ok (.aload_n 0, 1) := by decide +kernel
theorem dX6_digest_11 : decode cX6_digest 11 = .ok (.getfield 26, 3) := by decide +kernel
theorem dX6_digest_14 : decode cX6_digest 14 = .ok (.getfield 98, 3) := by decide +kernel
theorem dX6_digest_17 : decode cX6_digest 17 = .ok (.invokevirtual 126, 3) := by decide +kernel
theorem dX6_digest_20 : decode cX6_digest 20 = .ok (.goto 4, 3) := by decide +kernel
theorem dX6_digest_23 : decode cX6_digest 23 = .ok (.lconst 0, 1) := by decide +kernel
theorem dX6_digest_24 : decode cX6_digest 24 = .ok (.lreturn, 1) := by decide +kernel
set_option maxRecDepth 20000 in
theorem ggX6_offer_X5_indexOf : GoodIn wsX6_offer wsX5_indexOf := goodIn_r _ [11, 12, 13, 14, 15, 164, 165, 166, 152, 153, 154, 155, 156, 157, 158, 159, 160, 161, 162, 163] (by decide +kernel) (by decide +kernel)
set_option maxRecDepth 20000 in
theorem gX6_offer_X5_indexOf : GoodIn wsX6_offer (wsV RX6 136 RX5 yX5_indexOf wsX5_indexOf) := goodIn_app (goodIn_of _ (by decide +kernel)) ggX6_offer_X5_indexOf
set_option maxRecDepth 20000 in
theorem ggX6_offer_X6_refusal : GoodIn wsX6_offer wsX6_refusal := goodIn_r _ [20, 21, 22, 23, 6, 24, 25, 5, 26, 27, 28, 29, 19, 30, 1, 3, 31, 32, 33, 34, 35, 36, 37, 38, 39, 40, 41, 42, 43, 44, 45, 46, 47, 48, 49, 50, 51, 52, 53, 54, 55, 56, 57, 58, 59, 60, 61, 62, 63, 64, 65, 66, 67, 68, 69, 70, 71, 72, 73, 74, 75, 76, 77, 78, 79, 80, 81, 82, 83, 84, 4, 85, 86, 87, 88, 89, 10, 90, 12, 91, 92, 93, 94, 13, 95, 152, 153, 154, 155, 156, 157, 158, 159, 160, 161, 162, 163, 140, 141, 142, 143, 144, 145, 146, 147, 167, 168, 169, 170, 171, 148, 149, 150, 151, 172, 173, 174, 164, 165, 166] (by decide +kernel) (by decide +kernel)
set_option maxRecDepth 20000 in
theorem gX6_offer_X6_refusal : GoodIn wsX6_offer (wsV RX6 140 RX6 yX6_refusal wsX6_refusal) := goodIn_app (goodIn_of _ (by decide +kernel)) ggX6_offer_X6_refusal
set_option maxRecDepth 20000 in
theorem ggX6_offer_X6_end : GoodIn wsX6_offer wsX6_end := goodIn_r _ [99, 4, 100, 101, 102, 103, 104, 10, 105, 13, 12, 106, 107, 108, 109, 110, 111, 112, 113, 114, 115, 116, 117, 118, 119, 120, 140, 141, 142, 143, 144, 145, 146, 147, 152, 153, 154, 155, 156, 157, 158, 159, 160, 161, 162, 163, 164, 165, 166, 175, 176, 177, 178, 179, 180] (by decide +kernel) (by decide +kernel)
set_option maxRecDepth 20000 in
theorem gX6_offer_X6_end : GoodIn wsX6_offer (wsV RX6 144 RX6 yX6_end wsX6_end) := goodIn_app (goodIn_of _ (by decide +kernel)) ggX6_offer_X6_end
set_option maxRecDepth 20000 in
theorem ggX6_offer_X5_isFull : GoodIn wsX6_offer wsX5_isFull := goodIn_r _ [90, 12, 164, 165, 166] (by decide +kernel) (by decide +kernel)
set_option maxRecDepth 20000 in
theorem gX6_offer_X5_isFull : GoodIn wsX6_offer (wsV RX6 147 RX5 yX5_isFull wsX5_isFull) := goodIn_app (goodIn_of _ (by decide +kernel)) ggX6_offer_X5_isFull
set_option maxRecDepth 20000 in
theorem ggX6_offer_X5_cheapest : GoodIn wsX6_offer wsX5_cheapest := goodIn_r _ [94, 12, 13, 95, 164, 165, 166, 152, 153, 154, 155, 156, 157, 158, 159, 160, 161, 162, 163] (by decide +kernel) (by decide +kernel)
set_option maxRecDepth 20000 in
theorem gX6_offer_X5_cheapest : GoodIn wsX6_offer (wsV RX6 151 RX5 yX5_cheapest wsX5_cheapest) := goodIn_app (goodIn_of _ (by decide +kernel)) ggX6_offer_X5_cheapest
set_option maxRecDepth 20000 in
theorem ggX6_offer_X5_append : GoodIn wsX6_offer wsX5_append := goodIn_r _ [124, 13, 12, 125, 126, 127, 128, 129, 39, 130, 43, 44, 45, 46, 47, 48, 49, 50, 51, 52, 131, 132, 133, 134, 135, 136, 137, 138, 139, 164, 165, 166, 152, 153, 154, 155, 156, 157, 158, 159, 160, 161, 162, 163] (by decide +kernel) (by decide +kernel)
set_option maxRecDepth 20000 in
theorem gX6_offer_X5_append : GoodIn wsX6_offer (wsV RX6 155 RX5 yX5_append wsX5_append) := goodIn_app (goodIn_of _ (by decide +kernel)) ggX6_offer_X5_append
theorem dX6_offer_0 : decode cX6_offer 0 = .ok (.aload_n 0, 1) := by decide +kernel
theorem dX6_offer_1 : decode cX6_offer 1 = .ok (.getfield 26, 3) := by decide +kernel
theorem dX6_offer_4 : decode cX6_offer 4 = .ok (.getfield 94, 3) := by decide +kernel
theorem dX6_offer_7 : decode cX6_offer 7 = .ok (.ifCond .ne 6, 3) := by decide +kernel
theorem dX6_offer_10 : decode cX6_offer 10 = .ok (.bipush (-2), 2) := by decide +kernel
theorem dX6_offer_12 : decode cX6_offer 12 = .ok (.ireturn, 1) := by decide +kernel
theorem dX6_offer_13 : decode cX6_offer 13 = .ok (.aload_n 0, 1) := by decide +kernel
theorem dX6_offer_14 : decode cX6_offer 14 = .ok (.getfield 26, 3) := by decide +kernel
theorem dX6_offer_17 : decode cX6_offer 17 = .ok (.getfield 98, 3) := by decide +kernel
theorem dX6_offer_20 : decode cX6_offer 20 = .ok (.astore_n 1, 1) := by decide +kernel
theorem dX6_offer_21 : decode cX6_offer 21 = .ok (.aload_n 0, 1) := by decide +kernel
theorem dX6_offer_22 : decode cX6_offer 22 = .ok (.getfield 33, 3) := by decide +kernel
theorem dX6_offer_25 : decode cX6_offer 25 = .ok (.aload_n 1, 1) := by decide +kernel
theorem dX6_offer_26 : decode cX6_offer 26 = .ok (.getfield 130, 3) := by decide +kernel
theorem dX6_offer_29 : decode cX6_offer 29 = .ok (.aload_n 1, 1) := by decide +kernel
theorem dX6_offer_30 : decode cX6_offer 30 = .ok (.getfield 133, 3) := by decide +kernel
theorem dX6_offer_33 : decode cX6_offer 33 = .ok (.invokevirtual 136, 3) := by decide +kernel
theorem dX6_offer_36 : decode cX6_offer 36 = .ok (.istore_n 2, 1) := by decide +kernel
theorem dX6_offer_37 : decode cX6_offer 37 = .ok (.aload_n 0, 1) := by decide +kernel
theorem dX6_offer_38 : decode cX6_offer 38 = .ok (.aload_n 1, 1) := by decide +kernel
theorem dX6_offer_39 : decode cX6_offer 39 = .ok (.iload_n 2, 1) := by decide +kernel
theorem dX6_offer_40 : decode cX6_offer 40 = .ok (.invokevirtual 140, 3) := by decide +kernel
theorem dX6_offer_43 : decode cX6_offer 43 = .ok (.istore_n 3, 1) := by decide +kernel
theorem dX6_offer_44 : decode cX6_offer 44 = .ok (.iload_n 3, 1) := by decide +kernel
theorem dX6_offer_45 : decode cX6_offer 45 = .ok (.ifCond .eq 8, 3) := by decide +kernel
theorem dX6_offer_48 : decode cX6_offer 48 = .ok (.bipush (-10), 2) := by decide +kernel
theorem dX6_offer_50 : decode cX6_offer 50 = .ok (.iload_n 3, 1) := by decide +kernel
theorem dX6_offer_51 : decode cX6_offer 51 = .ok (.isub, 1) := by decide +kernel
theorem dX6_offer_52 : decode cX6_offer 52 = .ok (.ireturn, 1) := by decide +kernel
theorem dX6_offer_53 : decode cX6_offer 53 = .ok (.iload_n 2, 1) := by decide +kernel
theorem dX6_offer_54 : decode cX6_offer 54 = .ok (.iconst (-1), 1) := by decide +kernel
theorem dX6_offer_55 : decode cX6_offer 55 = .ok (.if_icmp .eq 12, 3) := by decide +kernel
theorem dX6_offer_58 : decode cX6_offer 58 = .ok (.aload_n 0, 1) := by decide +kernel
theorem dX6_offer_59 : decode cX6_offer 59 = .ok (.iload_n 2, 1) := by decide +kernel
theorem dX6_offer_60 : decode cX6_offer 60 = .ok (.iconst 3, 1) := by decide +kernel
theorem dX6_offer_61 : decode cX6_offer 61 = .ok (.invokevirtual 144, 3) := by decide +kernel
theorem dX6_offer_64 : decode cX6_offer 64 = .ok (.goto 25, 3) := by decide +kernel
theorem dX6_offer_67 : decode cX6_offer 67 = .ok (.aload_n 0, 1) := by decide +kernel
theorem dX6_offer_68 : decode cX6_offer 68 = .ok (.getfield 33, 3) := by decide +kernel
theorem dX6_offer_71 : decode cX6_offer 71 = .ok (.invokevirtual 147, 3) := by decide +kernel
theorem dX6_offer_74 : decode cX6_offer 74 = .ok (.ifCond .eq 15, 3) := by decide +kernel
theorem dX6_offer_77 : decode cX6_offer 77 = .ok (.aload_n 0, 1) := by decide +kernel
theorem dX6_offer_78 : decode cX6_offer 78 = .ok (.aload_n 0, 1) := by decide +kernel
theorem dX6_offer_79 : decode cX6_offer 79 = .ok (.getfield 33, 3) := by decide +kernel
theorem dX6_offer_82 : decode cX6_offer 82 = .ok (.invokevirtual 151, 3) := by decide +kernel
theorem dX6_offer_85 : decode cX6_offer 85 = .ok (.iconst 4, 1) := by decide +kernel
theorem dX6_offer_86 : decode cX6_offer 86 = .ok (.invokevirtual 144, 3) := by decide +kernel
theorem dX6_offer_89 : decode cX6_offer 89 = .ok (.aload_n 0, 1) := by decide +kernel
theorem dX6_offer_90 : decode cX6_offer 90 = .ok (.getfield 33, 3) := by decide +kernel
theorem dX6_offer_93 : decode cX6_offer 93 = .ok (.aload_n 1, 1) := by decide +kernel
theorem dX6_offer_94 : decode cX6_offer 94 = .ok (.invokevirtual 155, 3) := by decide +kernel
theorem dX6_offer_97 : decode cX6_offer 97 = .ok (.ireturn, 1) := by decide +kernel
theorem dX6_step_0 : decode cX6_step 0 = .ok (.iload_n 1, 1) := by decide +kernel
theorem dX6_step_1 : decode cX6_step 1 = .ok (.iconst 1, 1) := by decide +kernel
theorem dX6_step_2 : decode cX6_step 2 = .ok (.if_icmp .lt 10, 3) := by decide +kernel
theorem dX6_step_5 : decode cX6_step 5 = .ok (.iload_n 1, 1) := by decide +kernel
theorem dX6_step_6 : decode cX6_step 6 = .ok (.sipush 1000, 3) := by decide +kernel
theorem dX6_step_9 : decode cX6_step 9 = .ok (.if_icmp .le 5, 3) := by decide +kernel
theorem dX6_step_12 : decode cX6_step 12 = .ok (.iconst (-1), 1) := by decide +kernel
theorem dX6_step_13 : decode cX6_step 13 = .ok (.ireturn, 1) := by decide +kernel
theorem dX6_step_14 : decode cX6_step 14 = .ok (.aload_n 0, 1) := by decide +kernel
theorem dX6_step_15 : decode cX6_step 15 = .ok (.getfield 44, 3) := by decide +kernel
theorem dX6_step_18 : decode cX6_step 18 = .ok (.istore_n 2, 1) := by decide +kernel
theorem dX6_step_19 : decode cX6_step 19 = .ok (.aload_n 0, 1) := by decide +kernel
theorem dX6_step_20 : decode cX6_step 20 = .ok (.iload_n 1, 1) := by decide +kernel
theorem dX6_step_21 : decode cX6_step 21 = .ok (.putfield 44, 3) := by decide +kernel
theorem dX6_step_24 : decode cX6_step 24 = .ok (.iload_n 2, 1) := by decide +kernel
theorem dX6_step_25 : decode cX6_step 25 = .ok (.ireturn, 1) := by decide +kernel
set_option maxRecDepth 20000 in
theorem ggX6_block_X6_endThoseOver : GoodIn wsX6_block wsX6_endThoseOver := goodIn_r _ [10, 2, 11, 12, 13, 1, 14, 15, 16, 9, 17, 3, 4, 18, 19, 20, 21, 22, 23, 24, 25, 26, 27, 28, 29, 30, 31, 32, 33, 34, 35, 36, 37, 38, 39, 99, 100, 101, 102, 103, 104, 105, 106, 119, 120, 121, 107, 108, 109, 110, 111, 112, 113, 114, 115, 116, 117, 118, 122, 123, 124, 125, 126, 127] (by decide +kernel) (by decide +kernel)
set_option maxRecDepth 20000 in
theorem gX6_block_X6_endThoseOver : GoodIn wsX6_block (wsV RX6 161 RX6 yX6_endThoseOver wsX6_endThoseOver) := goodIn_app (goodIn_of _ (by decide +kernel)) ggX6_block_X6_endThoseOver
set_option maxRecDepth 20000 in
theorem ggX6_block_X6_dearestReady : GoodIn wsX6_block wsX6_dearestReady := goodIn_r _ [43, 2, 11, 12, 44, 45, 46, 47, 9, 48, 49, 50, 51, 52, 53, 1, 54, 99, 100, 101, 102, 103, 104, 105, 106, 119, 120, 121, 107, 108, 109, 110, 111, 112, 113, 114, 115, 116, 117, 118, 128, 129, 130, 131, 132] (by decide +kernel) (by decide +kernel)
set_option maxRecDepth 20000 in
theorem gX6_block_X6_dearestReady : GoodIn wsX6_block (wsV RX6 164 RX6 yX6_dearestReady wsX6_dearestReady) := goodIn_app (goodIn_of _ (by decide +kernel)) ggX6_block_X6_dearestReady
set_option maxRecDepth 20000 in
theorem ggX6_block_X5_take : GoodIn wsX6_block wsX5_take := goodIn_r _ [22, 23, 24, 119, 120, 121] (by decide +kernel) (by decide +kernel)
set_option maxRecDepth 20000 in
theorem gX6_block_X5_take : GoodIn wsX6_block (wsV RX6 167 RX5 yX5_take wsX5_take) := goodIn_app (goodIn_of _ (by decide +kernel)) ggX6_block_X5_take
set_option maxRecDepth 20000 in
theorem ggX6_block_X6_perform : GoodIn wsX6_block wsX6_perform := goodIn_r _ [58, 5, 50, 59, 51, 52, 44, 60, 61, 62, 63, 9, 64, 65, 66, 67, 68, 69, 70, 71, 72, 73, 74, 75, 76, 77, 78, 79, 80, 81, 82, 83, 84, 85, 86, 54, 87, 88, 89, 90, 91, 92, 93, 94, 95, 96, 97, 98, 107, 108, 109, 110, 111, 112, 113, 114, 115, 116, 117, 118, 99, 100, 101, 102, 103, 104, 105, 106, 128, 129, 130, 131, 132] (by decide +kernel) (by decide +kernel)
set_option maxRecDepth 20000 in
theorem gX6_block_X6_perform : GoodIn wsX6_block (wsV RX6 171 RX6 yX6_perform wsX6_perform) := goodIn_app (goodIn_of _ (by decide +kernel)) ggX6_block_X6_perform
set_option maxRecDepth 20000 in
theorem ggX6_block_X3_note : GoodIn wsX6_block wsX3_note := goodIn_r _ [29, 30, 31, 32, 33, 34, 35, 36, 37, 38, 39, 122, 123, 124, 125, 126, 127] (by decide +kernel) (by decide +kernel)
set_option maxRecDepth 20000 in
theorem gX6_block_X3_note : GoodIn wsX6_block (wsV RX6 180 RX3 yX3_note wsX3_note) := goodIn_app (goodIn_of _ (by decide +kernel)) ggX6_block_X3_note
theorem dX6_block_0 : decode cX6_block 0 = .ok (.iload_n 1, 1) := by decide +kernel
theorem dX6_block_1 : decode cX6_block 1 = .ok (.ifCond .lt 10, 3) := by decide +kernel
theorem dX6_block_4 : decode cX6_block 4 = .ok (.iload_n 1, 1) := by decide +kernel
theorem dX6_block_5 : decode cX6_block 5 = .ok (.sipush 10000, 3) := by decide +kernel
theorem dX6_block_8 : decode cX6_block 8 = .ok (.if_icmp .le 5, 3) := by decide +kernel
theorem dX6_block_11 : decode cX6_block 11 = .ok (.iconst (-1), 1) := by decide +kernel
theorem dX6_block_12 : decode cX6_block 12 = .ok (.ireturn, 1) := by decide +kernel
theorem dX6_block_13 : decode cX6_block 13 = .ok (.aload_n 0, 1) := by decide +kernel
theorem dX6_block_14 : decode cX6_block 14 = .ok (.dup, 1) := by decide +kernel
theorem dX6_block_15 : decode cX6_block 15 = .ok (.getfield 158, 3) := by decide +kernel
theorem dX6_block_18 : decode cX6_block 18 = .ok (.iconst 1, 1) := by decide +kernel
theorem dX6_block_19 : decode cX6_block 19 = .ok (.iadd, 1) := by decide +kernel
theorem dX6_block_20 : decode cX6_block 20 = .ok (.putfield 158, 3) := by decide +kernel
theorem dX6_block_23 : decode cX6_block 23 = .ok (.aload_n 0, 1) := by decide +kernel
theorem dX6_block_24 : decode cX6_block 24 = .ok (.invokevirtual 161, 3) := by decide +kernel
theorem dX6_block_27 : decode cX6_block 27 = .ok (.iload_n 1, 1) := by decide +kernel
theorem dX6_block_28 : decode cX6_block 28 = .ok (.istore_n 2, 1) := by decide +kernel
theorem dX6_block_29 : decode cX6_block 29 = .ok (.iconst 0, 1) := by decide +kernel
theorem dX6_block_30 : decode cX6_block 30 = .ok (.istore_n 3, 1) := by decide +kernel
theorem dX6_block_31 : decode cX6_block 31 = .ok (.iconst 0, 1) := by decide +kernel
theorem dX6_block_32 : decode cX6_block 32 = .ok (.istore 4, 2) := by decide +kernel
theorem dX6_block_34 : decode cX6_block 34 = .ok (.iload 4, 2) := by decide +kernel
theorem dX6_block_36 : decode cX6_block 36 = .ok (.bipush 24, 2) := by decide +kernel
theorem dX6_block_38 : decode cX6_block 38 = .ok (.if_icmp .ge 79, 3) := by decide +kernel
theorem dX6_block_41 : decode cX6_block 41 = .ok (.aload_n 0, 1) := by decide +kernel
theorem dX6_block_42 : decode cX6_block 42 = .ok (.iload_n 2, 1) := by decide +kernel
theorem dX6_block_43 : decode cX6_block 43 = .ok (.invokevirtual 164, 3) := by decide +kernel
theorem dX6_block_46 : decode cX6_block 46 = .ok (.istore 5, 2) := by decide +kernel
theorem dX6_block_48 : decode cX6_block 48 = .ok (.iload 5, 2) := by decide +kernel
theorem dX6_block_50 : decode cX6_block 50 = .ok (.iconst (-1), 1) := by decide +kernel
theorem dX6_block_51 : decode cX6_block 51 = .ok (.if_icmp .ne 6, 3) := by decide +kernel
theorem dX6_block_54 : decode cX6_block 54 = .ok (.goto 63, 3) := by decide +kernel
theorem dX6_block_57 : decode cX6_block 57 = .ok (.aload_n 0, 1) := by decide +kernel
theorem dX6_block_58 : decode cX6_block 58 = .ok (.getfield 33, 3) := by decide +kernel
theorem dX6_block_61 : decode cX6_block 61 = .ok (.iload 5, 2) := by decide +kernel
theorem dX6_block_63 : decode cX6_block 63 = .ok (.invokevirtual 167, 3) := by decide +kernel
theorem dX6_block_66 : decode cX6_block 66 = .ok (.astore 6, 2) := by decide +kernel
theorem dX6_block_68 : decode cX6_block 68 = .ok (.aload_n 0, 1) := by decide +kernel
theorem dX6_block_69 : decode cX6_block 69 = .ok (.aload 6, 2) := by decide +kernel
theorem dX6_block_71 : decode cX6_block 71 = .ok (.invokevirtual 171, 3) := by decide +kernel
theorem dX6_block_74 : decode cX6_block 74 = .ok (.istore 7, 2) := by decide +kernel
theorem dX6_block_76 : decode cX6_block 76 = .ok (.aload_n 0, 1) := by decide +kernel
theorem dX6_block_77 : decode cX6_block 77 = .ok (.getfield 40, 3) := by decide +kernel
theorem dX6_block_80 : decode cX6_block 80 = .ok (.aload 6, 2) := by decide +kernel
theorem dX6_block_82 : decode cX6_block 82 = .ok (.getfield 174, 3) := by decide +kernel
theorem dX6_block_85 : decode cX6_block 85 = .ok (.iload 7, 2) := by decide +kernel
theorem dX6_block_87 : decode cX6_block 87 = .ok (.aload 6, 2) := by decide +kernel
theorem dX6_block_89 : decode cX6_block 89 = .ok (.getfield 177, 3) := by decide +kernel
theorem dX6_block_92 : decode cX6_block 92 = .ok (.invokevirtual 180, 3) := by decide +kernel
theorem dX6_block_95 : decode cX6_block 95 = .ok (.iload_n 2, 1) := by decide +kernel
theorem dX6_block_96 : decode cX6_block 96 = .ok (.aload 6, 2) := by decide +kernel
theorem dX6_block_98 : decode cX6_block 98 = .ok (.getfield 177, 3) := by decide +kernel
theorem dX6_block_101 : decode cX6_block 101 = .ok (.isub, 1) := by decide +kernel
theorem dX6_block_102 : decode cX6_block 102 = .ok (.istore_n 2, 1) := by decide +kernel
theorem dX6_block_103 : decode cX6_block 103 = .ok (.iload 7, 2) := by decide +kernel
theorem dX6_block_105 : decode cX6_block 105 = .ok (.ifCond .ne 6, 3) := by decide +kernel
theorem dX6_block_108 : decode cX6_block 108 = .ok (.iinc 3 1, 3) := by decide +kernel
theorem dX6_block_111 : decode cX6_block 111 = .ok (.iinc 4 1, 3) := by decide +kernel
theorem dX6_block_114 : decode cX6_block 114 = .ok (.goto (-80), 3) := by decide +kernel
theorem dX6_block_117 : decode cX6_block 117 = .ok (.iload_n 3, 1) := by decide +kernel
theorem dX6_block_118 : decode cX6_block 118 = .ok (.ireturn, 1) := by decide +kernel
theorem dX6_waiting_0 : decode cX6_waiting 0 = .ok (.iload_n 1, 1) := by decide +kernel
theorem dX6_waiting_1 : decode cX6_waiting 1 = .ok (.ifCond .lt 14, 3) := by decide +kernel
theorem dX6_waiting_4 : decode cX6_waiting 4 = .ok (.iload_n 1, 1) := by decide +kernel
theorem dX6_waiting_5 : decode cX6_waiting 5 = .ok (.aload_n 0, 1) := by decide +kernel
theorem dX6_waiting_6 : decode cX6_waiting 6 = .ok (.getfield 33, 3) := by decide +kernel
theorem dX6_waiting_9 : decode cX6_waiting 9 = .ok (.getfield 183, 3) := by decide +kernel
theorem dX6_waiting_12 : decode cX6_waiting 12 = .ok (.if_icmp .lt 5, 3) := by decide +kernel
theorem dX6_waiting_15 : decode cX6_waiting 15 = .ok (.iconst (-1), 1) := by decide +kernel
theorem dX6_waiting_16 : decode cX6_waiting 16 = .ok (.ireturn, 1) := by decide +kernel
theorem dX6_waiting_17 : decode cX6_waiting 17 = .ok (.aload_n 0, 1) := by decide +kernel
theorem dX6_waiting_18 : decode cX6_waiting 18 = .ok (.getfield 33, 3) := by decide +kernel
theorem dX6_waiting_21 : decode cX6_waiting 21 = .ok (.getfield 184, 3) := by decide +kernel
theorem dX6_waiting_24 : decode cX6_waiting 24 = .ok (.iload_n 1, 1) := by decide +kernel
theorem dX6_waiting_25 : decode cX6_waiting 25 = .ok (.aaload, 1) := by decide +kernel
theorem dX6_waiting_26 : decode cX6_waiting 26 = .ok (.astore_n 3, 1) := by decide +kernel
theorem dX6_waiting_27 : decode cX6_waiting 27 = .ok (.iload_n 2, 1) := by decide +kernel
theorem dX6_waiting_28 : decode cX6_waiting 28 = .ok (.tableswitch 52 0 3 #[32, 37, 42, 47], 32) := by decide +kernel
theorem dX6_waiting_60 : decode cX6_waiting 60 = .ok (.aload_n 3, 1) := by decide +kernel
theorem dX6_waiting_61 : decode cX6_waiting 61 = .ok (.getfield 174, 3) := by decide +kernel
theorem dX6_waiting_64 : decode cX6_waiting 64 = .ok (.ireturn, 1) := by decide +kernel
theorem dX6_waiting_65 : decode cX6_waiting 65 = .ok (.aload_n 3, 1) := by decide +kernel
theorem dX6_waiting_66 : decode cX6_waiting 66 = .ok (.getfield 130, 3) := by decide +kernel
theorem dX6_waiting_69 : decode cX6_waiting 69 = .ok (.ireturn, 1) := by decide +kernel
theorem dX6_waiting_70 : decode cX6_waiting 70 = .ok (.aload_n 3, 1) := by decide +kernel
theorem dX6_waiting_71 : decode cX6_waiting 71 = .ok (.getfield 133, 3) := by decide +kernel
theorem dX6_waiting_74 : decode cX6_waiting 74 = .ok (.ireturn, 1) := by decide +kernel
theorem dX6_waiting_75 : decode cX6_waiting 75 = .ok (.aload_n 3, 1) := by decide +kernel
theorem dX6_waiting_76 : decode cX6_waiting 76 = .ok (.getfield 188, 3) := by decide +kernel
theorem dX6_waiting_79 : decode cX6_waiting 79 = .ok (.ireturn, 1) := by decide +kernel
theorem dX6_waiting_80 : decode cX6_waiting 80 = .ok (.iconst (-1), 1) := by decide +kernel
theorem dX6_waiting_81 : decode cX6_waiting 81 = .ok (.ireturn, 1) := by decide +kernel
set_option maxRecDepth 20000 in
theorem ggX6_event_X3_placeOf : GoodIn wsX6_event wsX3_placeOf := goodIn_r _ [10, 11, 20, 21, 22, 23, 24, 25] (by decide +kernel) (by decide +kernel)
set_option maxRecDepth 20000 in
theorem gX6_event_X3_placeOf : GoodIn wsX6_event (wsV RX6 194 RX3 yX3_placeOf wsX3_placeOf) := goodIn_app (goodIn_of _ (by decide +kernel)) ggX6_event_X3_placeOf
theorem dX6_event_0 : decode cX6_event 0 = .ok (.iload_n 1, 1) := by decide +kernel
theorem dX6_event_1 : decode cX6_event 1 = .ok (.ifCond .lt 14, 3) := by decide +kernel
theorem dX6_event_4 : decode cX6_event 4 = .ok (.iload_n 1, 1) := by decide +kernel
theorem dX6_event_5 : decode cX6_event 5 = .ok (.aload_n 0, 1) := by decide +kernel
theorem dX6_event_6 : decode cX6_event 6 = .ok (.getfield 40, 3) := by decide +kernel
theorem dX6_event_9 : decode cX6_event 9 = .ok (.getfield 191, 3) := by decide +kernel
theorem dX6_event_12 : decode cX6_event 12 = .ok (.if_icmp .lt 5, 3) := by decide +kernel
theorem dX6_event_15 : decode cX6_event 15 = .ok (.iconst (-1), 1) := by decide +kernel
theorem dX6_event_16 : decode cX6_event 16 = .ok (.ireturn, 1) := by decide +kernel
theorem dX6_event_17 : decode cX6_event 17 = .ok (.aload_n 0, 1) := by decide +kernel
theorem dX6_event_18 : decode cX6_event 18 = .ok (.getfield 40, 3) := by decide +kernel
theorem dX6_event_21 : decode cX6_event 21 = .ok (.iload_n 1, 1) := by decide +kernel
theorem dX6_event_22 : decode cX6_event 22 = .ok (.invokevirtual 194, 3) := by decide +kernel
theorem dX6_event_25 : decode cX6_event 25 = .ok (.istore_n 3, 1) := by decide +kernel
theorem dX6_event_26 : decode cX6_event 26 = .ok (.iload_n 2, 1) := by decide +kernel
theorem dX6_event_27 : decode cX6_event 27 = .ok (.tableswitch 55 0 2 #[25, 35, 45], 25) := by decide +kernel
theorem dX6_event_52 : decode cX6_event 52 = .ok (.aload_n 0, 1) := by decide +kernel
theorem dX6_event_53 : decode cX6_event 53 = .ok (.getfield 40, 3) := by decide +kernel
theorem dX6_event_56 : decode cX6_event 56 = .ok (.getfield 197, 3) := by decide +kernel
theorem dX6_event_59 : decode cX6_event 59 = .ok (.iload_n 3, 1) := by decide +kernel
theorem dX6_event_60 : decode cX6_event 60 = .ok (.iaload, 1) := by decide +kernel
theorem dX6_event_61 : decode cX6_event 61 = .ok (.ireturn, 1) := by decide +kernel
theorem dX6_event_62 : decode cX6_event 62 = .ok (.aload_n 0, 1) := by decide +kernel
theorem dX6_event_63 : decode cX6_event 63 = .ok (.getfield 40, 3) := by decide +kernel
theorem dX6_event_66 : decode cX6_event 66 = .ok (.getfield 200, 3) := by decide +kernel
theorem dX6_event_69 : decode cX6_event 69 = .ok (.iload_n 3, 1) := by decide +kernel
theorem dX6_event_70 : decode cX6_event 70 = .ok (.iaload, 1) := by decide +kernel
theorem dX6_event_71 : decode cX6_event 71 = .ok (.ireturn, 1) := by decide +kernel
theorem dX6_event_72 : decode cX6_event 72 = .ok (.aload_n 0, 1) := by decide +kernel
theorem dX6_event_73 : decode cX6_event 73 = .ok (.getfield 40, 3) := by decide +kernel
theorem dX6_event_76 : decode cX6_event 76 = .ok (.getfield 203, 3) := by decide +kernel
theorem dX6_event_79 : decode cX6_event 79 = .ok (.iload_n 3, 1) := by decide +kernel
theorem dX6_event_80 : decode cX6_event 80 = .ok (.iaload, 1) := by decide +kernel
theorem dX6_event_81 : decode cX6_event 81 = .ok (.ireturn, 1) := by decide +kernel
theorem dX6_event_82 : decode cX6_event 82 = .ok (.iconst (-1), 1) := by decide +kernel
theorem dX6_event_83 : decode cX6_event 83 = .ok (.ireturn, 1) := by decide +kernel
theorem dX6_paid_0 : decode cX6_paid 0 = .ok (.aload_n 0, 1) := by decide +kernel
theorem dX6_paid_1 : decode cX6_paid 1 = .ok (.getfield 206, 3) := by decide +kernel
theorem dX6_paid_4 : decode cX6_paid 4 = .ok (.lreturn, 1) := by decide +kernel
theorem dX6_told_0 : decode cX6_told 0 = .ok (.iload_n 1, 1) := by decide +kernel
theorem dX6_told_1 : decode cX6_told 1 = .ok (.tableswitch 84 0 5 #[39, 47, 55, 63, 71, 79], 39) := by decide +kernel
theorem dX6_told_40 : decode cX6_told 40 = .ok (.aload_n 0, 1) := by decide +kernel
theorem dX6_told_41 : decode cX6_told 41 = .ok (.getfield 10, 3) := by decide +kernel
theorem dX6_told_44 : decode cX6_told 44 = .ok (.getfield 56, 3) := by decide +kernel
theorem dX6_told_47 : decode cX6_told 47 = .ok (.ireturn, 1) := by decide +kernel
theorem dX6_told_48 : decode cX6_told 48 = .ok (.aload_n 0, 1) := by decide +kernel
theorem dX6_told_49 : decode cX6_told 49 = .ok (.getfield 19, 3) := by decide +kernel
theorem dX6_told_52 : decode cX6_told 52 = .ok (.getfield 81, 3) := by decide +kernel
theorem dX6_told_55 : decode cX6_told 55 = .ok (.ireturn, 1) := by decide +kernel
theorem dX6_told_56 : decode cX6_told 56 = .ok (.aload_n 0, 1) := by decide +kernel
theorem dX6_told_57 : decode cX6_told 57 = .ok (.getfield 33, 3) := by decide +kernel
theorem dX6_told_60 : decode cX6_told 60 = .ok (.getfield 183, 3) := by decide +kernel
theorem dX6_told_63 : decode cX6_told 63 = .ok (.ireturn, 1) := by decide +kernel
theorem dX6_told_64 : decode cX6_told 64 = .ok (.aload_n 0, 1) := by decide +kernel
theorem dX6_told_65 : decode cX6_told 65 = .ok (.getfield 33, 3) := by decide +kernel
theorem dX6_told_68 : decode cX6_told 68 = .ok (.getfield 210, 3) := by decide +kernel
theorem dX6_told_71 : decode cX6_told 71 = .ok (.ireturn, 1) := by decide +kernel
theorem dX6_told_72 : decode cX6_told 72 = .ok (.aload_n 0, 1) := by decide +kernel
theorem dX6_told_73 : decode cX6_told 73 = .ok (.getfield 40, 3) := by decide +kernel
theorem dX6_told_76 : decode cX6_told 76 = .ok (.getfield 213, 3) := by decide +kernel
theorem dX6_told_79 : decode cX6_told 79 = .ok (.ireturn, 1) := by decide +kernel
theorem dX6_told_80 : decode cX6_told 80 = .ok (.aload_n 0, 1) := by decide +kernel
theorem dX6_told_81 : decode cX6_told 81 = .ok (.getfield 158, 3) := by decide +kernel
theorem dX6_told_84 : decode cX6_told 84 = .ok (.ireturn, 1) := by decide +kernel
theorem dX6_told_85 : decode cX6_told 85 = .ok (.iconst (-1), 1) := by decide +kernel
theorem dX6_told_86 : decode cX6_told 86 = .ok (.ireturn, 1) := by decide +kernel
theorem dX6_isAmount_0 : decode cX6_isAmount 0 = .ok (.lload_n 0, 1) := by decide +kernel
theorem dX6_isAmount_1 : decode cX6_isAmount 1 = .ok (.lconst 0, 1) := by decide +kernel
theorem dX6_isAmount_2 : decode cX6_isAmount 2 = .ok (.lcmp, 1) := by decide +kernel
theorem dX6_isAmount_3 : decode cX6_isAmount 3 = .ok (.ifCond .lt 15, 3) := by decide +kernel
theorem dX6_isAmount_6 : decode cX6_isAmount 6 = .ok (.lload_n 0, 1) := by decide +kernel
theorem dX6_isAmount_7 : decode cX6_isAmount 7 = .ok (.ldc2_w 216, 3) := by decide +kernel
theorem dX6_isAmount_10 : decode cX6_isAmount 10 = .ok (.lcmp, 1) := by decide +kernel
theorem dX6_isAmount_11 : decode cX6_isAmount 11 = .ok (.ifCond .gt 7, 3) := by decide +kernel
theorem dX6_isAmount_14 : decode cX6_isAmount 14 = .ok (.iconst 1, 1) := by decide +kernel
theorem dX6_isAmount_15 : decode cX6_isAmount 15 = .ok (.goto 4, 3) := by decide +kernel
theorem dX6_isAmount_18 : decode cX6_isAmount 18 = .ok (.iconst 0, 1) := by decide +kernel
theorem dX6_isAmount_19 : decode cX6_isAmount 19 = .ok (.ireturn, 1) := by decide +kernel
theorem dX6_isHeight_0 : decode cX6_isHeight 0 = .ok (.iload_n 0, 1) := by decide +kernel
theorem dX6_isHeight_1 : decode cX6_isHeight 1 = .ok (.ifCond .lt 13, 3) := by decide +kernel
theorem dX6_isHeight_4 : decode cX6_isHeight 4 = .ok (.iload_n 0, 1) := by decide +kernel
theorem dX6_isHeight_5 : decode cX6_isHeight 5 = .ok (.ldc 86, 2) := by decide +kernel
theorem dX6_isHeight_7 : decode cX6_isHeight 7 = .ok (.if_icmp .gt 7, 3) := by decide +kernel
theorem dX6_isHeight_10 : decode cX6_isHeight 10 = .ok (.iconst 1, 1) := by decide +kernel
theorem dX6_isHeight_11 : decode cX6_isHeight 11 = .ok (.goto 4, 3) := by decide +kernel
theorem dX6_isHeight_14 : decode cX6_isHeight 14 = .ok (.iconst 0, 1) := by decide +kernel
theorem dX6_isHeight_15 : decode cX6_isHeight 15 = .ok (.ireturn, 1) := by decide +kernel
set_option maxRecDepth 20000 in
theorem ggX6_isLock_J6_bitCount_0f7a4 : GoodIn wsX6_isLock wsJ6_bitCount_0f7a4 := goodIn_r _ [5, 6, 7, 8] (by decide +kernel) (by decide +kernel)
set_option maxRecDepth 20000 in
theorem gX6_isLock_J6_bitCount_0f7a4 : GoodIn wsX6_isLock (va_wsS RX6 219 yJ6_bitCount_0f7a4 wsJ6_bitCount_0f7a4) := goodIn_app (goodIn_of _ (by decide +kernel)) ggX6_isLock_J6_bitCount_0f7a4
theorem dX6_isLock_0 : decode cX6_isLock 0 = .ok (.iload_n 0, 1) := by decide +kernel
theorem dX6_isLock_1 : decode cX6_isLock 1 = .ok (.ifCond .le 26, 3) := by decide +kernel
theorem dX6_isLock_4 : decode cX6_isLock 4 = .ok (.iload_n 0, 1) := by decide +kernel
theorem dX6_isLock_5 : decode cX6_isLock 5 = .ok (.ldc 218, 2) := by decide +kernel
theorem dX6_isLock_7 : decode cX6_isLock 7 = .ok (.if_icmp .ge 20, 3) := by decide +kernel
theorem dX6_isLock_10 : decode cX6_isLock 10 = .ok (.iload_n 1, 1) := by decide +kernel
theorem dX6_isLock_11 : decode cX6_isLock 11 = .ok (.iconst 1, 1) := by decide +kernel
theorem dX6_isLock_12 : decode cX6_isLock 12 = .ok (.if_icmp .lt 15, 3) := by decide +kernel
theorem dX6_isLock_15 : decode cX6_isLock 15 = .ok (.iload_n 1, 1) := by decide +kernel
theorem dX6_isLock_16 : decode cX6_isLock 16 = .ok (.iload_n 0, 1) := by decide +kernel
theorem dX6_isLock_17 : decode cX6_isLock 17 = .ok (.invokestatic 219, 3) := by decide +kernel
theorem dX6_isLock_20 : decode cX6_isLock 20 = .ok (.if_icmp .gt 7, 3) := by decide +kernel
theorem dX6_isLock_23 : decode cX6_isLock 23 = .ok (.iconst 1, 1) := by decide +kernel
theorem dX6_isLock_24 : decode cX6_isLock 24 = .ok (.goto 4, 3) := by decide +kernel
theorem dX6_isLock_27 : decode cX6_isLock 27 = .ok (.iconst 0, 1) := by decide +kernel
theorem dX6_isLock_28 : decode cX6_isLock 28 = .ok (.ireturn, 1) := by decide +kernel
set_option maxRecDepth 20000 in
theorem ggX6_refusal_X6_signersOfDraft : GoodIn wsX6_refusal wsX6_signersOfDraft := goodIn_r _ [13, 14, 15, 16, 17, 18, 19, 20, 21, 22, 23, 24, 25, 26, 27, 28, 29, 30, 31, 32, 33, 34, 35, 36, 37, 97, 98, 99, 100, 101, 102, 103, 104, 110, 111, 112, 113, 114, 115, 116, 85, 86, 87, 88, 89, 90, 91, 92, 93, 94, 95, 96] (by decide +kernel) (by decide +kernel)
set_option maxRecDepth 20000 in
theorem gX6_refusal_X6_signersOfDraft : GoodIn wsX6_refusal (wsV RX6 224 RX6 yX6_signersOfDraft wsX6_signersOfDraft) := goodIn_app (goodIn_of _ (by decide +kernel)) ggX6_refusal_X6_signersOfDraft
set_option maxRecDepth 20000 in
theorem ggX6_refusal_X0_isMet : GoodIn wsX6_refusal wsX0_isMet := goodIn_r _ [42, 43, 44, 45, 46, 47, 48, 49, 50, 51, 105, 106, 107, 108, 109] (by decide +kernel) (by decide +kernel)
set_option maxRecDepth 20000 in
theorem gX6_refusal_X0_isMet : GoodIn wsX6_refusal (wsV RX6 227 RX0 yX0_isMet wsX0_isMet) := goodIn_app (goodIn_of _ (by decide +kernel)) ggX6_refusal_X0_isMet
set_option maxRecDepth 20000 in
theorem ggX6_refusal_X6_coversStake : GoodIn wsX6_refusal wsX6_coversStake := goodIn_r _ [55, 5, 56, 57, 58, 59, 24, 60, 34, 28, 61, 62, 63, 64, 30, 31, 97, 98, 99, 100, 101, 102, 103, 104, 105, 106, 107, 108, 109, 85, 86, 87, 88, 89, 90, 91, 92, 93, 94, 95, 96] (by decide +kernel) (by decide +kernel)
set_option maxRecDepth 20000 in
theorem gX6_refusal_X6_coversStake : GoodIn wsX6_refusal (wsV RX6 230 RX6 yX6_coversStake wsX6_coversStake) := goodIn_app (goodIn_of _ (by decide +kernel)) ggX6_refusal_X6_coversStake
set_option maxRecDepth 20000 in
theorem ggX6_refusal_X6_refusalByRow : GoodIn wsX6_refusal wsX6_refusalByRow := goodIn_r _ [68, 69, 70, 71, 72, 73, 74, 75, 76, 77, 78, 79, 80, 81, 82, 83, 84, 85, 86, 87, 88, 89, 90, 91, 92, 93, 94, 95, 96, 97, 98, 99, 100, 101, 102, 103, 104, 117, 118, 119] (by decide +kernel) (by decide +kernel)
set_option maxRecDepth 20000 in
theorem gX6_refusal_X6_refusalByRow : GoodIn wsX6_refusal (wsV RX6 234 RX6 yX6_refusalByRow wsX6_refusalByRow) := goodIn_app (goodIn_of _ (by decide +kernel)) ggX6_refusal_X6_refusalByRow
theorem dX6_refusal_0 : decode cX6_refusal 0 = .ok (.aload_n 1, 1) := by decide +kernel
theorem dX6_refusal_1 : decode cX6_refusal 1 = .ok (.getfield 113, 3) := by decide +kernel
theorem dX6_refusal_4 : decode cX6_refusal 4 = .ok (.ifCond .ne 5, 3) := by decide +kernel
theorem dX6_refusal_7 : decode cX6_refusal 7 = .ok (.iconst 1, 1) := by decide +kernel
theorem dX6_refusal_8 : decode cX6_refusal 8 = .ok (.ireturn, 1) := by decide +kernel
theorem dX6_refusal_9 : decode cX6_refusal 9 = .ok (.aload_n 1, 1) := by decide +kernel
theorem dX6_refusal_10 : decode cX6_refusal 10 = .ok (.getfield 102, 3) := by decide +kernel
theorem dX6_refusal_13 : decode cX6_refusal 13 = .ok (.aload_n 0, 1) := by decide +kernel
theorem dX6_refusal_14 : decode cX6_refusal 14 = .ok (.getfield 158, 3) := by decide +kernel
theorem dX6_refusal_17 : decode cX6_refusal 17 = .ok (.if_icmp .ge 5, 3) := by decide +kernel
theorem dX6_refusal_20 : decode cX6_refusal 20 = .ok (.iconst 2, 1) := by decide +kernel
theorem dX6_refusal_21 : decode cX6_refusal 21 = .ok (.ireturn, 1) := by decide +kernel
theorem dX6_refusal_22 : decode cX6_refusal 22 = .ok (.aload_n 1, 1) := by decide +kernel
theorem dX6_refusal_23 : decode cX6_refusal 23 = .ok (.getfield 133, 3) := by decide +kernel
theorem dX6_refusal_26 : decode cX6_refusal 26 = .ok (.aload_n 0, 1) := by decide +kernel
theorem dX6_refusal_27 : decode cX6_refusal 27 = .ok (.getfield 10, 3) := by decide +kernel
theorem dX6_refusal_30 : decode cX6_refusal 30 = .ok (.getfield 77, 3) := by decide +kernel
theorem dX6_refusal_33 : decode cX6_refusal 33 = .ok (.aload_n 1, 1) := by decide +kernel
theorem dX6_refusal_34 : decode cX6_refusal 34 = .ok (.getfield 130, 3) := by decide +kernel
theorem dX6_refusal_37 : decode cX6_refusal 37 = .ok (.iaload, 1) := by decide +kernel
theorem dX6_refusal_38 : decode cX6_refusal 38 = .ok (.if_icmp .ge 5, 3) := by decide +kernel
theorem dX6_refusal_41 : decode cX6_refusal 41 = .ok (.iconst 3, 1) := by decide +kernel
theorem dX6_refusal_42 : decode cX6_refusal 42 = .ok (.ireturn, 1) := by decide +kernel
theorem dX6_refusal_43 : decode cX6_refusal 43 = .ok (.aload_n 0, 1) := by decide +kernel
theorem dX6_refusal_44 : decode cX6_refusal 44 = .ok (.invokevirtual 224, 3) := by decide +kernel
theorem dX6_refusal_47 : decode cX6_refusal 47 = .ok (.istore_n 3, 1) := by decide +kernel
theorem dX6_refusal_48 : decode cX6_refusal 48 = .ok (.aload_n 0, 1) := by decide +kernel
theorem dX6_refusal_49 : decode cX6_refusal 49 = .ok (.getfield 10, 3) := by decide +kernel
theorem dX6_refusal_52 : decode cX6_refusal 52 = .ok (.aload_n 1, 1) := by decide +kernel
theorem dX6_refusal_53 : decode cX6_refusal 53 = .ok (.getfield 130, 3) := by decide +kernel
theorem dX6_refusal_56 : decode cX6_refusal 56 = .ok (.iload_n 3, 1) := by decide +kernel
theorem dX6_refusal_57 : decode cX6_refusal 57 = .ok (.invokevirtual 227, 3) := by decide +kernel
theorem dX6_refusal_60 : decode cX6_refusal 60 = .ok (.ifCond .ne 5, 3) := by decide +kernel
theorem dX6_refusal_63 : decode cX6_refusal 63 = .ok (.iconst 4, 1) := by decide +kernel
theorem dX6_refusal_64 : decode cX6_refusal 64 = .ok (.ireturn, 1) := by decide +kernel
theorem dX6_refusal_65 : decode cX6_refusal 65 = .ok (.aload_n 1, 1) := by decide +kernel
theorem dX6_refusal_66 : decode cX6_refusal 66 = .ok (.getfield 110, 3) := by decide +kernel
theorem dX6_refusal_69 : decode cX6_refusal 69 = .ok (.iconst (-1), 1) := by decide +kernel
theorem dX6_refusal_70 : decode cX6_refusal 70 = .ok (.if_icmp .eq 20, 3) := by decide +kernel
theorem dX6_refusal_73 : decode cX6_refusal 73 = .ok (.aload_n 0, 1) := by decide +kernel
theorem dX6_refusal_74 : decode cX6_refusal 74 = .ok (.getfield 10, 3) := by decide +kernel
theorem dX6_refusal_77 : decode cX6_refusal 77 = .ok (.aload_n 1, 1) := by decide +kernel
theorem dX6_refusal_78 : decode cX6_refusal 78 = .ok (.getfield 110, 3) := by decide +kernel
theorem dX6_refusal_81 : decode cX6_refusal 81 = .ok (.iload_n 3, 1) := by decide +kernel
theorem dX6_refusal_82 : decode cX6_refusal 82 = .ok (.invokevirtual 227, 3) := by decide +kernel
theorem dX6_refusal_85 : decode cX6_refusal 85 = .ok (.ifCond .ne 5, 3) := by decide +kernel
theorem dX6_refusal_88 : decode cX6_refusal 88 = .ok (.iconst 5, 1) := by decide +kernel
theorem dX6_refusal_89 : decode cX6_refusal 89 = .ok (.ireturn, 1) := by decide +kernel
theorem dX6_refusal_90 : decode cX6_refusal 90 = .ok (.aload_n 0, 1) := by decide +kernel
theorem dX6_refusal_91 : decode cX6_refusal 91 = .ok (.aload_n 1, 1) := by decide +kernel
theorem dX6_refusal_92 : decode cX6_refusal 92 = .ok (.invokevirtual 230, 3) := by decide +kernel
theorem dX6_refusal_95 : decode cX6_refusal 95 = .ok (.ifCond .ne 6, 3) := by decide +kernel
theorem dX6_refusal_98 : decode cX6_refusal 98 = .ok (.bipush 6, 2) := by decide +kernel
theorem dX6_refusal_100 : decode cX6_refusal 100 = .ok (.ireturn, 1) := by decide +kernel
theorem dX6_refusal_101 : decode cX6_refusal 101 = .ok (.aload_n 0, 1) := by decide +kernel
theorem dX6_refusal_102 : decode cX6_refusal 102 = .ok (.aload_n 1, 1) := by decide +kernel
theorem dX6_refusal_103 : decode cX6_refusal 103 = .ok (.iload_n 2, 1) := by decide +kernel
theorem dX6_refusal_104 : decode cX6_refusal 104 = .ok (.invokevirtual 234, 3) := by decide +kernel
theorem dX6_refusal_107 : decode cX6_refusal 107 = .ok (.ireturn, 1) := by decide +kernel
set_option maxRecDepth 20000 in
theorem ggX6_refusalByRow_X5_isFull : GoodIn wsX6_refusalByRow wsX5_isFull := goodIn_r _ [9, 10, 37, 38, 39] (by decide +kernel) (by decide +kernel)
set_option maxRecDepth 20000 in
theorem gX6_refusalByRow_X5_isFull : GoodIn wsX6_refusalByRow (wsV RX6 147 RX5 yX5_isFull wsX5_isFull) := goodIn_app (goodIn_of _ (by decide +kernel)) ggX6_refusalByRow_X5_isFull
set_option maxRecDepth 20000 in
theorem ggX6_refusalByRow_X5_cheapest : GoodIn wsX6_refusalByRow wsX5_cheapest := goodIn_r _ [14, 10, 15, 16, 37, 38, 39, 17, 18, 19, 20, 21, 22, 23, 24, 25, 26, 27, 28] (by decide +kernel) (by decide +kernel)
set_option maxRecDepth 20000 in
theorem gX6_refusalByRow_X5_cheapest : GoodIn wsX6_refusalByRow (wsV RX6 151 RX5 yX5_cheapest wsX5_cheapest) := goodIn_app (goodIn_of _ (by decide +kernel)) ggX6_refusalByRow_X5_cheapest
theorem dX6_refusalByRow_0 : decode cX6_refusalByRow 0 = .ok (.iload_n 2, 1) := by decide +kernel
theorem dX6_refusalByRow_1 : decode cX6_refusalByRow 1 = .ok (.iconst (-1), 1) := by decide +kernel
theorem dX6_refusalByRow_2 : decode cX6_refusalByRow 2 = .ok (.if_icmp .eq 34, 3) := by decide +kernel
theorem dX6_refusalByRow_5 : decode cX6_refusalByRow 5 = .ok (.aload_n 1, 1) := by decide +kernel
theorem dX6_refusalByRow_6 : decode cX6_refusalByRow 6 = .ok (.getfield 188, 3) := by decide +kernel
theorem dX6_refusalByRow_9 : decode cX6_refusalByRow 9 = .ok (.aload_n 0, 1) := by decide +kernel
theorem dX6_refusalByRow_10 : decode cX6_refusalByRow 10 = .ok (.getfield 33, 3) := by decide +kernel
theorem dX6_refusalByRow_13 : decode cX6_refusalByRow 13 = .ok (.getfield 184, 3) := by decide +kernel
theorem dX6_refusalByRow_16 : decode cX6_refusalByRow 16 = .ok (.iload_n 2, 1) := by decide +kernel
theorem dX6_refusalByRow_17 : decode cX6_refusalByRow 17 = .ok (.aaload, 1) := by decide +kernel
theorem dX6_refusalByRow_18 : decode cX6_refusalByRow 18 = .ok (.getfield 188, 3) := by decide +kernel
theorem dX6_refusalByRow_21 : decode cX6_refusalByRow 21 = .ok (.aload_n 0, 1) := by decide +kernel
theorem dX6_refusalByRow_22 : decode cX6_refusalByRow 22 = .ok (.getfield 44, 3) := by decide +kernel
theorem dX6_refusalByRow_25 : decode cX6_refusalByRow 25 = .ok (.iadd, 1) := by decide +kernel
theorem dX6_refusalByRow_26 : decode cX6_refusalByRow 26 = .ok (.if_icmp .ge 8, 3) := by decide +kernel
theorem dX6_refusalByRow_29 : decode cX6_refusalByRow 29 = .ok (.bipush 7, 2) := by decide +kernel
theorem dX6_refusalByRow_31 : decode cX6_refusalByRow 31 = .ok (.goto 4, 3) := by decide +kernel
theorem dX6_refusalByRow_34 : decode cX6_refusalByRow 34 = .ok (.iconst 0, 1) := by decide +kernel
theorem dX6_refusalByRow_35 : decode cX6_refusalByRow 35 = .ok (.ireturn, 1) := by decide +kernel
theorem dX6_refusalByRow_36 : decode cX6_refusalByRow 36 = .ok (.aload_n 0, 1) := by decide +kernel
theorem dX6_refusalByRow_37 : decode cX6_refusalByRow 37 = .ok (.getfield 33, 3) := by decide +kernel
theorem dX6_refusalByRow_40 : decode cX6_refusalByRow 40 = .ok (.invokevirtual 147, 3) := by decide +kernel
theorem dX6_refusalByRow_43 : decode cX6_refusalByRow 43 = .ok (.ifCond .eq 31, 3) := by decide +kernel
theorem dX6_refusalByRow_46 : decode cX6_refusalByRow 46 = .ok (.aload_n 1, 1) := by decide +kernel
theorem dX6_refusalByRow_47 : decode cX6_refusalByRow 47 = .ok (.getfield 188, 3) := by decide +kernel
theorem dX6_refusalByRow_50 : decode cX6_refusalByRow 50 = .ok (.aload_n 0, 1) := by decide +kernel
theorem dX6_refusalByRow_51 : decode cX6_refusalByRow 51 = .ok (.getfield 33, 3) := by decide +kernel
theorem dX6_refusalByRow_54 : decode cX6_refusalByRow 54 = .ok (.getfield 184, 3) := by decide +kernel
theorem dX6_refusalByRow_57 : decode cX6_refusalByRow 57 = .ok (.aload_n 0, 1) := by decide +kernel
theorem dX6_refusalByRow_58 : decode cX6_refusalByRow 58 = .ok (.getfield 33, 3) := by decide +kernel
theorem dX6_refusalByRow_61 : decode cX6_refusalByRow 61 = .ok (.invokevirtual 151, 3) := by decide +kernel
theorem dX6_refusalByRow_64 : decode cX6_refusalByRow 64 = .ok (.aaload, 1) := by decide +kernel
theorem dX6_refusalByRow_65 : decode cX6_refusalByRow 65 = .ok (.getfield 188, 3) := by decide +kernel
theorem dX6_refusalByRow_68 : decode cX6_refusalByRow 68 = .ok (.if_icmp .gt 6, 3) := by decide +kernel
theorem dX6_refusalByRow_71 : decode cX6_refusalByRow 71 = .ok (.bipush 8, 2) := by decide +kernel
theorem dX6_refusalByRow_73 : decode cX6_refusalByRow 73 = .ok (.ireturn, 1) := by decide +kernel
theorem dX6_refusalByRow_74 : decode cX6_refusalByRow 74 = .ok (.iconst 0, 1) := by decide +kernel
theorem dX6_refusalByRow_75 : decode cX6_refusalByRow 75 = .ok (.ireturn, 1) := by decide +kernel
set_option maxRecDepth 20000 in
theorem ggX6_signersOfDraft_X1_computeDigest : GoodIn wsX6_signersOfDraft wsX1_computeDigest := goodIn_r _ [12, 13, 14, 15, 16, 17, 18, 19, 20, 21, 22, 23, 24, 40, 41, 42, 43, 44, 45, 46, 47, 48, 49, 50, 51] (by decide +kernel) (by decide +kernel)
set_option maxRecDepth 20000 in
theorem gX6_signersOfDraft_X1_computeDigest : GoodIn wsX6_signersOfDraft (wsV RX6 126 RX1 yX1_computeDigest wsX1_computeDigest) := goodIn_app (goodIn_of _ (by decide +kernel)) ggX6_signersOfDraft_X1_computeDigest
theorem dX6_signersOfDraft_0 : decode cX6_signersOfDraft 0 = .ok (.aload_n 0, 1) := by decide +kernel
theorem dX6_signersOfDraft_1 : decode cX6_signersOfDraft 1 = .ok (.getfield 26, 3) := by decide +kernel
theorem dX6_signersOfDraft_4 : decode cX6_signersOfDraft 4 = .ok (.getfield 98, 3) := by decide +kernel
theorem dX6_signersOfDraft_7 : decode cX6_signersOfDraft 7 = .ok (.invokevirtual 126, 3) := by decide +kernel
theorem dX6_signersOfDraft_10 : decode cX6_signersOfDraft 10 = .ok (.lstore_n 1, 1) := by decide +kernel
theorem dX6_signersOfDraft_11 : decode cX6_signersOfDraft 11 = .ok (.iconst 0, 1) := by decide +kernel
theorem dX6_signersOfDraft_12 : decode cX6_signersOfDraft 12 = .ok (.istore_n 3, 1) := by decide +kernel
theorem dX6_signersOfDraft_13 : decode cX6_signersOfDraft 13 = .ok (.iconst 0, 1) := by decide +kernel
theorem dX6_signersOfDraft_14 : decode cX6_signersOfDraft 14 = .ok (.istore 4, 2) := by decide +kernel
theorem dX6_signersOfDraft_16 : decode cX6_signersOfDraft 16 = .ok (.iload 4, 2) := by decide +kernel
theorem dX6_signersOfDraft_18 : decode cX6_signersOfDraft 18 = .ok (.aload_n 0, 1) := by decide +kernel
theorem dX6_signersOfDraft_19 : decode cX6_signersOfDraft 19 = .ok (.getfield 26, 3) := by decide +kernel
theorem dX6_signersOfDraft_22 : decode cX6_signersOfDraft 22 = .ok (.getfield 120, 3) := by decide +kernel
theorem dX6_signersOfDraft_25 : decode cX6_signersOfDraft 25 = .ok (.if_icmp .ge 51, 3) := by decide +kernel
theorem dX6_signersOfDraft_28 : decode cX6_signersOfDraft 28 = .ok (.aload_n 0, 1) := by decide +kernel
theorem dX6_signersOfDraft_29 : decode cX6_signersOfDraft 29 = .ok (.getfield 26, 3) := by decide +kernel
theorem dX6_signersOfDraft_32 : decode cX6_signersOfDraft 32 = .ok (.getfield 237, 3) := by decide +kernel
theorem dX6_signersOfDraft_35 : decode cX6_signersOfDraft 35 = .ok (.iload 4, 2) := by decide +kernel
theorem dX6_signersOfDraft_37 : decode cX6_signersOfDraft 37 = .ok (.iaload, 1) := by decide +kernel
theorem dX6_signersOfDraft_38 : decode cX6_signersOfDraft 38 = .ok (.istore 5, 2) := by decide +kernel
theorem dX6_signersOfDraft_40 : decode cX6_signersOfDraft 40 = .ok (.aload_n 0, 1) := by decide +kernel
theorem dX6_signersOfDraft_41 : decode cX6_signersOfDraft 41 = .ok (.getfield 19, 3) := by decide +kernel
theorem dX6_signersOfDraft_44 : decode cX6_signersOfDraft 44 = .ok (.getfield 239, 3) := by decide +kernel
theorem dX6_signersOfDraft_47 : decode cX6_signersOfDraft 47 = .ok (.iload 5, 2) := by decide +kernel
theorem dX6_signersOfDraft_49 : decode cX6_signersOfDraft 49 = .ok (.laload, 1) := by decide +kernel
theorem dX6_signersOfDraft_50 : decode cX6_signersOfDraft 50 = .ok (.lload_n 1, 1) := by decide +kernel
theorem dX6_signersOfDraft_51 : decode cX6_signersOfDraft 51 = .ok (.lcmp, 1) := by decide +kernel
theorem dX6_signersOfDraft_52 : decode cX6_signersOfDraft 52 = .ok (.ifCond .ne 18, 3) := by decide +kernel
theorem dX6_signersOfDraft_55 : decode cX6_signersOfDraft 55 = .ok (.iload_n 3, 1) := by decide +kernel
theorem dX6_signersOfDraft_56 : decode cX6_signersOfDraft 56 = .ok (.iconst 1, 1) := by decide +kernel
theorem dX6_signersOfDraft_57 : decode cX6_signersOfDraft 57 = .ok (.aload_n 0, 1) := by decide +kernel
theorem dX6_signersOfDraft_58 : decode cX6_signersOfDraft 58 = .ok (.getfield 19, 3) := by decide +kernel
theorem dX6_signersOfDraft_61 : decode cX6_signersOfDraft 61 = .ok (.getfield 242, 3) := by decide +kernel
theorem dX6_signersOfDraft_64 : decode cX6_signersOfDraft 64 = .ok (.iload 5, 2) := by decide +kernel
theorem dX6_signersOfDraft_66 : decode cX6_signersOfDraft 66 = .ok (.iaload, 1) := by decide +kernel
theorem dX6_signersOfDraft_67 : decode cX6_signersOfDraft 67 = .ok (.ishl, 1) := by decide +kernel
theorem dX6_signersOfDraft_68 : decode cX6_signersOfDraft 68 = .ok (.ior, 1) := by decide +kernel
theorem dX6_signersOfDraft_69 : decode cX6_signersOfDraft 69 = .ok (.istore_n 3, 1) := by decide +kernel
theorem dX6_signersOfDraft_70 : decode cX6_signersOfDraft 70 = .ok (.iinc 4 1, 3) := by decide +kernel
theorem dX6_signersOfDraft_73 : decode cX6_signersOfDraft 73 = .ok (.goto (-57), 3) := by decide +kernel
theorem dX6_signersOfDraft_76 : decode cX6_signersOfDraft 76 = .ok (.iload_n 3, 1) := by decide +kernel
theorem dX6_signersOfDraft_77 : decode cX6_signersOfDraft 77 = .ok (.ireturn, 1) := by decide +kernel
set_option maxRecDepth 20000 in
theorem ggX6_coversStake_X1_payer : GoodIn wsX6_coversStake wsX1_payer := goodIn_r _ [7, 8, 9, 29, 30, 31, 32, 33, 34, 35, 36, 37, 38, 39, 40] (by decide +kernel) (by decide +kernel)
set_option maxRecDepth 20000 in
theorem gX6_coversStake_X1_payer : GoodIn wsX6_coversStake (wsV RX6 245 RX1 yX1_payer wsX1_payer) := goodIn_app (goodIn_of _ (by decide +kernel)) ggX6_coversStake_X1_payer
set_option maxRecDepth 20000 in
theorem ggX6_coversStake_X1_stake : GoodIn wsX6_coversStake wsX1_stake := goodIn_r _ [13, 14, 15, 29, 30, 31, 32, 33, 34, 35, 36, 37, 38, 39, 40] (by decide +kernel) (by decide +kernel)
set_option maxRecDepth 20000 in
theorem gX6_coversStake_X1_stake : GoodIn wsX6_coversStake (wsV RX6 248 RX1 yX1_stake wsX1_stake) := goodIn_app (goodIn_of _ (by decide +kernel)) ggX6_coversStake_X1_stake
theorem dX6_coversStake_0 : decode cX6_coversStake 0 = .ok (.aload_n 0, 1) := by decide +kernel
theorem dX6_coversStake_1 : decode cX6_coversStake 1 = .ok (.getfield 10, 3) := by decide +kernel
theorem dX6_coversStake_4 : decode cX6_coversStake 4 = .ok (.getfield 71, 3) := by decide +kernel
theorem dX6_coversStake_7 : decode cX6_coversStake 7 = .ok (.aload_n 1, 1) := by decide +kernel
theorem dX6_coversStake_8 : decode cX6_coversStake 8 = .ok (.invokevirtual 245, 3) := by decide +kernel
theorem dX6_coversStake_11 : decode cX6_coversStake 11 = .ok (.laload, 1) := by decide +kernel
theorem dX6_coversStake_12 : decode cX6_coversStake 12 = .ok (.aload_n 1, 1) := by decide +kernel
theorem dX6_coversStake_13 : decode cX6_coversStake 13 = .ok (.invokevirtual 248, 3) := by decide +kernel
theorem dX6_coversStake_16 : decode cX6_coversStake 16 = .ok (.lcmp, 1) := by decide +kernel
theorem dX6_coversStake_17 : decode cX6_coversStake 17 = .ok (.ifCond .lt 7, 3) := by decide +kernel
theorem dX6_coversStake_20 : decode cX6_coversStake 20 = .ok (.iconst 1, 1) := by decide +kernel
theorem dX6_coversStake_21 : decode cX6_coversStake 21 = .ok (.goto 4, 3) := by decide +kernel
theorem dX6_coversStake_24 : decode cX6_coversStake 24 = .ok (.iconst 0, 1) := by decide +kernel
theorem dX6_coversStake_25 : decode cX6_coversStake 25 = .ok (.ireturn, 1) := by decide +kernel
set_option maxRecDepth 20000 in
theorem ggX6_end_X5_take : GoodIn wsX6_end wsX5_take := goodIn_r _ [8, 9, 10, 46, 47, 48] (by decide +kernel) (by decide +kernel)
set_option maxRecDepth 20000 in
theorem gX6_end_X5_take : GoodIn wsX6_end (wsV RX6 167 RX5 yX5_take wsX5_take) := goodIn_app (goodIn_of _ (by decide +kernel)) ggX6_end_X5_take
set_option maxRecDepth 20000 in
theorem ggX6_end_X3_note : GoodIn wsX6_end wsX3_note := goodIn_r _ [15, 16, 17, 18, 19, 20, 21, 22, 23, 24, 25, 49, 50, 51, 52, 53, 54] (by decide +kernel) (by decide +kernel)
set_option maxRecDepth 20000 in
theorem gX6_end_X3_note : GoodIn wsX6_end (wsV RX6 180 RX3 yX3_note wsX3_note) := goodIn_app (goodIn_of _ (by decide +kernel)) ggX6_end_X3_note
theorem dX6_end_0 : decode cX6_end 0 = .ok (.aload_n 0, 1) := by decide +kernel
theorem dX6_end_1 : decode cX6_end 1 = .ok (.getfield 33, 3) := by decide +kernel
theorem dX6_end_4 : decode cX6_end 4 = .ok (.iload_n 1, 1) := by decide +kernel
theorem dX6_end_5 : decode cX6_end 5 = .ok (.invokevirtual 167, 3) := by decide +kernel
theorem dX6_end_8 : decode cX6_end 8 = .ok (.astore_n 3, 1) := by decide +kernel
theorem dX6_end_9 : decode cX6_end 9 = .ok (.aload_n 0, 1) := by decide +kernel
theorem dX6_end_10 : decode cX6_end 10 = .ok (.getfield 40, 3) := by decide +kernel
theorem dX6_end_13 : decode cX6_end 13 = .ok (.aload_n 3, 1) := by decide +kernel
theorem dX6_end_14 : decode cX6_end 14 = .ok (.getfield 174, 3) := by decide +kernel
theorem dX6_end_17 : decode cX6_end 17 = .ok (.iload_n 2, 1) := by decide +kernel
theorem dX6_end_18 : decode cX6_end 18 = .ok (.iconst 0, 1) := by decide +kernel
theorem dX6_end_19 : decode cX6_end 19 = .ok (.invokevirtual 180, 3) := by decide +kernel
theorem dX6_end_22 : decode cX6_end 22 = .ok (.return_, 1) := by decide +kernel
set_option maxRecDepth 20000 in
theorem ggX6_endThoseOver_X6_end : GoodIn wsX6_endThoseOver wsX6_end := goodIn_r _ [10, 1, 11, 12, 13, 14, 15, 16, 17, 18, 19, 20, 21, 22, 23, 24, 25, 26, 27, 28, 29, 30, 31, 32, 33, 34, 35, 36, 37, 38, 39, 40, 41, 42, 46, 47, 48, 49, 50, 51, 52, 53, 54, 55, 56, 57, 43, 44, 45, 58, 59, 60, 61, 62, 63] (by decide +kernel) (by decide +kernel)
set_option maxRecDepth 20000 in
theorem gX6_endThoseOver_X6_end : GoodIn wsX6_endThoseOver (wsV RX6 144 RX6 yX6_end wsX6_end) := goodIn_app (goodIn_of _ (by decide +kernel)) ggX6_endThoseOver_X6_end
theorem dX6_endThoseOver_0 : decode cX6_endThoseOver 0 = .ok (.iconst 0, 1) := by decide +kernel
theorem dX6_endThoseOver_1 : decode cX6_endThoseOver 1 = .ok (.istore_n 1, 1) := by decide +kernel
theorem dX6_endThoseOver_2 : decode cX6_endThoseOver 2 = .ok (.aload_n 0, 1) := by decide +kernel
theorem dX6_endThoseOver_3 : decode cX6_endThoseOver 3 = .ok (.getfield 33, 3) := by decide +kernel
theorem dX6_endThoseOver_6 : decode cX6_endThoseOver 6 = .ok (.getfield 183, 3) := by decide +kernel
theorem dX6_endThoseOver_9 : decode cX6_endThoseOver 9 = .ok (.istore_n 2, 1) := by decide +kernel
theorem dX6_endThoseOver_10 : decode cX6_endThoseOver 10 = .ok (.iload_n 2, 1) := by decide +kernel
theorem dX6_endThoseOver_11 : decode cX6_endThoseOver 11 = .ok (.ifCond .le 40, 3) := by decide +kernel
theorem dX6_endThoseOver_14 : decode cX6_endThoseOver 14 = .ok (.aload_n 0, 1) := by decide +kernel
theorem dX6_endThoseOver_15 : decode cX6_endThoseOver 15 = .ok (.getfield 33, 3) := by decide +kernel
theorem dX6_endThoseOver_18 : decode cX6_endThoseOver 18 = .ok (.getfield 184, 3) := by decide +kernel
theorem dX6_endThoseOver_21 : decode cX6_endThoseOver 21 = .ok (.iload_n 1, 1) := by decide +kernel
theorem dX6_endThoseOver_22 : decode cX6_endThoseOver 22 = .ok (.aaload, 1) := by decide +kernel
theorem dX6_endThoseOver_23 : decode cX6_endThoseOver 23 = .ok (.getfield 102, 3) := by decide +kernel
theorem dX6_endThoseOver_26 : decode cX6_endThoseOver 26 = .ok (.aload_n 0, 1) := by decide +kernel
theorem dX6_endThoseOver_27 : decode cX6_endThoseOver 27 = .ok (.getfield 158, 3) := by decide +kernel
theorem dX6_endThoseOver_30 : decode cX6_endThoseOver 30 = .ok (.if_icmp .ge 12, 3) := by decide +kernel
theorem dX6_endThoseOver_33 : decode cX6_endThoseOver 33 = .ok (.aload_n 0, 1) := by decide +kernel
theorem dX6_endThoseOver_34 : decode cX6_endThoseOver 34 = .ok (.iload_n 1, 1) := by decide +kernel
theorem dX6_endThoseOver_35 : decode cX6_endThoseOver 35 = .ok (.iconst 2, 1) := by decide +kernel
theorem dX6_endThoseOver_36 : decode cX6_endThoseOver 36 = .ok (.invokevirtual 144, 3) := by decide +kernel
theorem dX6_endThoseOver_39 : decode cX6_endThoseOver 39 = .ok (.goto 6, 3) := by decide +kernel
theorem dX6_endThoseOver_42 : decode cX6_endThoseOver 42 = .ok (.iinc 1 1, 3) := by decide +kernel
theorem dX6_endThoseOver_45 : decode cX6_endThoseOver 45 = .ok (.iinc 2 (-1), 3) := by decide +kernel
theorem dX6_endThoseOver_48 : decode cX6_endThoseOver 48 = .ok (.goto (-38), 3) := by decide +kernel
theorem dX6_endThoseOver_51 : decode cX6_endThoseOver 51 = .ok (.return_, 1) := by decide +kernel
set_option maxRecDepth 20000 in
theorem ggX6_dearestReady_X6_isReady : GoodIn wsX6_dearestReady wsX6_isReady := goodIn_r _ [9, 10, 11, 12, 13, 14, 15, 16, 28, 29, 30, 31, 32, 33, 34, 35, 36, 37, 38, 39, 17, 18, 19, 20, 21, 22, 23, 24, 40, 41, 42, 43, 44] (by decide +kernel) (by decide +kernel)
set_option maxRecDepth 20000 in
theorem gX6_dearestReady_X6_isReady : GoodIn wsX6_dearestReady (wsV RX6 251 RX6 yX6_isReady wsX6_isReady) := goodIn_app (goodIn_of _ (by decide +kernel)) ggX6_dearestReady_X6_isReady
theorem dX6_dearestReady_0 : decode cX6_dearestReady 0 = .ok (.iconst (-1), 1) := by decide +kernel
theorem dX6_dearestReady_1 : decode cX6_dearestReady 1 = .ok (.istore_n 2, 1) := by decide +kernel
theorem dX6_dearestReady_2 : decode cX6_dearestReady 2 = .ok (.iconst 0, 1) := by decide +kernel
theorem dX6_dearestReady_3 : decode cX6_dearestReady 3 = .ok (.istore_n 3, 1) := by decide +kernel
theorem dX6_dearestReady_4 : decode cX6_dearestReady 4 = .ok (.iload_n 3, 1) := by decide +kernel
theorem dX6_dearestReady_5 : decode cX6_dearestReady 5 = .ok (.aload_n 0, 1) := by decide +kernel
theorem dX6_dearestReady_6 : decode cX6_dearestReady 6 = .ok (.getfield 33, 3) := by decide +kernel
theorem dX6_dearestReady_9 : decode cX6_dearestReady 9 = .ok (.getfield 183, 3) := by decide +kernel
theorem dX6_dearestReady_12 : decode cX6_dearestReady 12 = .ok (.if_icmp .ge 60, 3) := by decide +kernel
theorem dX6_dearestReady_15 : decode cX6_dearestReady 15 = .ok (.aload_n 0, 1) := by decide +kernel
theorem dX6_dearestReady_16 : decode cX6_dearestReady 16 = .ok (.aload_n 0, 1) := by decide +kernel
theorem dX6_dearestReady_17 : decode cX6_dearestReady 17 = .ok (.getfield 33, 3) := by decide +kernel
theorem dX6_dearestReady_20 : decode cX6_dearestReady 20 = .ok (.getfield 184, 3) := by decide +kernel
theorem dX6_dearestReady_23 : decode cX6_dearestReady 23 = .ok (.iload_n 3, 1) := by decide +kernel
theorem dX6_dearestReady_24 : decode cX6_dearestReady 24 = .ok (.aaload, 1) := by decide +kernel
theorem dX6_dearestReady_25 : decode cX6_dearestReady 25 = .ok (.iload_n 1, 1) := by decide +kernel
theorem dX6_dearestReady_26 : decode cX6_dearestReady 26 = .ok (.invokevirtual 251, 3) := by decide +kernel
theorem dX6_dearestReady_29 : decode cX6_dearestReady 29 = .ok (.ifCond .eq 37, 3) := by decide +kernel
theorem dX6_dearestReady_32 : decode cX6_dearestReady 32 = .ok (.iload_n 2, 1) := by decide +kernel
theorem dX6_dearestReady_33 : decode cX6_dearestReady 33 = .ok (.iconst (-1), 1) := by decide +kernel
theorem dX6_dearestReady_34 : decode cX6_dearestReady 34 = .ok (.if_icmp .eq 30, 3) := by decide +kernel
theorem dX6_dearestReady_37 : decode cX6_dearestReady 37 = .ok (.aload_n 0, 1) := by decide +kernel
theorem dX6_dearestReady_38 : decode cX6_dearestReady 38 = .ok (.getfield 33, 3) := by decide +kernel
theorem dX6_dearestReady_41 : decode cX6_dearestReady 41 = .ok (.getfield 184, 3) := by decide +kernel
theorem dX6_dearestReady_44 : decode cX6_dearestReady 44 = .ok (.iload_n 3, 1) := by decide +kernel
theorem dX6_dearestReady_45 : decode cX6_dearestReady 45 = .ok (.aaload, 1) := by decide +kernel
theorem dX6_dearestReady_46 : decode cX6_dearestReady 46 = .ok (.getfield 188, 3) := by decide +kernel
theorem dX6_dearestReady_49 : decode cX6_dearestReady 49 = .ok (.aload_n 0, 1) := by decide +kernel
theorem dX6_dearestReady_50 : decode cX6_dearestReady 50 = .ok (.getfield 33, 3) := by decide +kernel
theorem dX6_dearestReady_53 : decode cX6_dearestReady 53 = .ok (.getfield 184, 3) := by decide +kernel
theorem dX6_dearestReady_56 : decode cX6_dearestReady 56 = .ok (.iload_n 2, 1) := by decide +kernel
theorem dX6_dearestReady_57 : decode cX6_dearestReady 57 = .ok (.aaload, 1) := by decide +kernel
theorem dX6_dearestReady_58 : decode cX6_dearestReady 58 = .ok (.getfield 188, 3) := by decide +kernel
theorem dX6_dearestReady_61 : decode cX6_dearestReady 61 = .ok (.if_icmp .le 5, 3) := by decide +kernel
theorem dX6_dearestReady_64 : decode cX6_dearestReady 64 = .ok (.iload_n 3, 1) := by decide +kernel
theorem dX6_dearestReady_65 : decode cX6_dearestReady 65 = .ok (.istore_n 2, 1) := by decide +kernel
theorem dX6_dearestReady_66 : decode cX6_dearestReady 66 = .ok (.iinc 3 1, 3) := by decide +kernel
theorem dX6_dearestReady_69 : decode cX6_dearestReady 69 = .ok (.goto (-65), 3) := by decide +kernel
theorem dX6_dearestReady_72 : decode cX6_dearestReady 72 = .ok (.iload_n 2, 1) := by decide +kernel
theorem dX6_dearestReady_73 : decode cX6_dearestReady 73 = .ok (.ireturn, 1) := by decide +kernel
theorem dX6_isReady_0 : decode cX6_isReady 0 = .ok (.aload_n 1, 1) := by decide +kernel
theorem dX6_isReady_1 : decode cX6_isReady 1 = .ok (.getfield 133, 3) := by decide +kernel
theorem dX6_isReady_4 : decode cX6_isReady 4 = .ok (.aload_n 0, 1) := by decide +kernel
theorem dX6_isReady_5 : decode cX6_isReady 5 = .ok (.getfield 10, 3) := by decide +kernel
theorem dX6_isReady_8 : decode cX6_isReady 8 = .ok (.getfield 77, 3) := by decide +kernel
theorem dX6_isReady_11 : decode cX6_isReady 11 = .ok (.aload_n 1, 1) := by decide +kernel
theorem dX6_isReady_12 : decode cX6_isReady 12 = .ok (.getfield 130, 3) := by decide +kernel
theorem dX6_isReady_15 : decode cX6_isReady 15 = .ok (.iaload, 1) := by decide +kernel
theorem dX6_isReady_16 : decode cX6_isReady 16 = .ok (.if_icmp .ne 26, 3) := by decide +kernel
theorem dX6_isReady_19 : decode cX6_isReady 19 = .ok (.aload_n 1, 1) := by decide +kernel
theorem dX6_isReady_20 : decode cX6_isReady 20 = .ok (.getfield 107, 3) := by decide +kernel
theorem dX6_isReady_23 : decode cX6_isReady 23 = .ok (.aload_n 0, 1) := by decide +kernel
theorem dX6_isReady_24 : decode cX6_isReady 24 = .ok (.getfield 158, 3) := by decide +kernel
theorem dX6_isReady_27 : decode cX6_isReady 27 = .ok (.if_icmp .gt 15, 3) := by decide +kernel
theorem dX6_isReady_30 : decode cX6_isReady 30 = .ok (.aload_n 1, 1) := by decide +kernel
theorem dX6_isReady_31 : decode cX6_isReady 31 = .ok (.getfield 255, 3) := by decide +kernel
theorem dX6_isReady_34 : decode cX6_isReady 34 = .ok (.iload_n 2, 1) := by decide +kernel
theorem dX6_isReady_35 : decode cX6_isReady 35 = .ok (.if_icmp .gt 7, 3) := by decide +kernel
theorem dX6_isReady_38 : decode cX6_isReady 38 = .ok (.iconst 1, 1) := by decide +kernel
theorem dX6_isReady_39 : decode cX6_isReady 39 = .ok (.goto 4, 3) := by decide +kernel
theorem dX6_isReady_42 : decode cX6_isReady 42 = .ok (.iconst 0, 1) := by decide +kernel
theorem dX6_isReady_43 : decode cX6_isReady 43 = .ok (.ireturn, 1) := by decide +kernel
set_option maxRecDepth 20000 in
theorem ggX6_perform_X6_coversStake : GoodIn wsX6_perform wsX6_coversStake := goodIn_r _ [12, 2, 3, 13, 14, 15, 16, 17, 18, 19, 20, 21, 22, 23, 24, 25, 60, 61, 62, 63, 64, 65, 66, 67, 68, 69, 70, 71, 72, 48, 49, 50, 51, 52, 53, 54, 55, 56, 57, 58, 59] (by decide +kernel) (by decide +kernel)
set_option maxRecDepth 20000 in
theorem gX6_perform_X6_coversStake : GoodIn wsX6_perform (wsV RX6 230 RX6 yX6_coversStake wsX6_coversStake) := goodIn_app (goodIn_of _ (by decide +kernel)) ggX6_perform_X6_coversStake
set_option maxRecDepth 20000 in
theorem ggX6_perform_X1_payer : GoodIn wsX6_perform wsX1_payer := goodIn_r _ [17, 18, 19, 48, 49, 50, 51, 52, 53, 54, 55, 56, 57, 58, 59] (by decide +kernel) (by decide +kernel)
set_option maxRecDepth 20000 in
theorem gX6_perform_X1_payer : GoodIn wsX6_perform (wsV RX6 245 RX1 yX1_payer wsX1_payer) := goodIn_app (goodIn_of _ (by decide +kernel)) ggX6_perform_X1_payer
set_option maxRecDepth 20000 in
theorem ggX6_perform_X1_stake : GoodIn wsX6_perform wsX1_stake := goodIn_r _ [23, 24, 25, 48, 49, 50, 51, 52, 53, 54, 55, 56, 57, 58, 59] (by decide +kernel) (by decide +kernel)
set_option maxRecDepth 20000 in
theorem gX6_perform_X1_stake : GoodIn wsX6_perform (wsV RX6 248 RX1 yX1_stake wsX1_stake) := goodIn_app (goodIn_of _ (by decide +kernel)) ggX6_perform_X1_stake
set_option maxRecDepth 20000 in
theorem ggX6_perform_X6_doActs : GoodIn wsX6_perform wsX6_doActs := goodIn_r _ [29, 30, 31, 32, 33, 11, 34, 1, 35, 2, 3, 5, 36, 37, 38, 39, 40, 41, 42, 43, 44, 45, 46, 47, 48, 49, 50, 51, 52, 53, 54, 55, 56, 57, 58, 59, 60, 61, 62, 63, 64, 65, 66, 67, 68, 69, 70, 71, 72] (by decide +kernel) (by decide +kernel)
set_option maxRecDepth 20000 in
theorem gX6_perform_X6_doActs : GoodIn wsX6_perform (wsV RX6 258 RX6 yX6_doActs wsX6_doActs) := goodIn_app (goodIn_of _ (by decide +kernel)) ggX6_perform_X6_doActs
theorem dX6_perform_0 : decode cX6_perform 0 = .ok (.aload_n 1, 1) := by decide +kernel
theorem dX6_perform_1 : decode cX6_perform 1 = .ok (.iconst 0, 1) := by decide +kernel
theorem dX6_perform_2 : decode cX6_perform 2 = .ok (.putfield 177, 3) := by decide +kernel
theorem dX6_perform_5 : decode cX6_perform 5 = .ok (.aload_n 0, 1) := by decide +kernel
theorem dX6_perform_6 : decode cX6_perform 6 = .ok (.aload_n 1, 1) := by decide +kernel
theorem dX6_perform_7 : decode cX6_perform 7 = .ok (.invokevirtual 230, 3) := by decide +kernel
theorem dX6_perform_10 : decode cX6_perform 10 = .ok (.ifCond .ne 5, 3) := by decide +kernel
theorem dX6_perform_13 : decode cX6_perform 13 = .ok (.iconst 5, 1) := by decide +kernel
theorem dX6_perform_14 : decode cX6_perform 14 = .ok (.ireturn, 1) := by decide +kernel
theorem dX6_perform_15 : decode cX6_perform 15 = .ok (.aload_n 1, 1) := by decide +kernel
theorem dX6_perform_16 : decode cX6_perform 16 = .ok (.invokevirtual 245, 3) := by decide +kernel
theorem dX6_perform_19 : decode cX6_perform 19 = .ok (.istore_n 2, 1) := by decide +kernel
theorem dX6_perform_20 : decode cX6_perform 20 = .ok (.aload_n 0, 1) := by decide +kernel
theorem dX6_perform_21 : decode cX6_perform 21 = .ok (.getfield 10, 3) := by decide +kernel
theorem dX6_perform_24 : decode cX6_perform 24 = .ok (.getfield 71, 3) := by decide +kernel
theorem dX6_perform_27 : decode cX6_perform 27 = .ok (.iload_n 2, 1) := by decide +kernel
theorem dX6_perform_28 : decode cX6_perform 28 = .ok (.dup2, 1) := by decide +kernel
theorem dX6_perform_29 : decode cX6_perform 29 = .ok (.laload, 1) := by decide +kernel
theorem dX6_perform_30 : decode cX6_perform 30 = .ok (.aload_n 1, 1) := by decide +kernel
theorem dX6_perform_31 : decode cX6_perform 31 = .ok (.invokevirtual 248, 3) := by decide +kernel
theorem dX6_perform_34 : decode cX6_perform 34 = .ok (.lsub, 1) := by decide +kernel
theorem dX6_perform_35 : decode cX6_perform 35 = .ok (.lastore, 1) := by decide +kernel
theorem dX6_perform_36 : decode cX6_perform 36 = .ok (.aload_n 0, 1) := by decide +kernel
theorem dX6_perform_37 : decode cX6_perform 37 = .ok (.getfield 10, 3) := by decide +kernel
theorem dX6_perform_40 : decode cX6_perform 40 = .ok (.getfield 77, 3) := by decide +kernel
theorem dX6_perform_43 : decode cX6_perform 43 = .ok (.aload_n 1, 1) := by decide +kernel
theorem dX6_perform_44 : decode cX6_perform 44 = .ok (.getfield 130, 3) := by decide +kernel
theorem dX6_perform_47 : decode cX6_perform 47 = .ok (.dup2, 1) := by decide +kernel
theorem dX6_perform_48 : decode cX6_perform 48 = .ok (.iaload, 1) := by decide +kernel
theorem dX6_perform_49 : decode cX6_perform 49 = .ok (.iconst 1, 1) := by decide +kernel
theorem dX6_perform_50 : decode cX6_perform 50 = .ok (.iadd, 1) := by decide +kernel
theorem dX6_perform_51 : decode cX6_perform 51 = .ok (.iastore, 1) := by decide +kernel
theorem dX6_perform_52 : decode cX6_perform 52 = .ok (.aload_n 0, 1) := by decide +kernel
theorem dX6_perform_53 : decode cX6_perform 53 = .ok (.aload_n 1, 1) := by decide +kernel
theorem dX6_perform_54 : decode cX6_perform 54 = .ok (.invokevirtual 258, 3) := by decide +kernel
theorem dX6_perform_57 : decode cX6_perform 57 = .ok (.istore_n 3, 1) := by decide +kernel
theorem dX6_perform_58 : decode cX6_perform 58 = .ok (.aload_n 1, 1) := by decide +kernel
theorem dX6_perform_59 : decode cX6_perform 59 = .ok (.getfield 188, 3) := by decide +kernel
theorem dX6_perform_62 : decode cX6_perform 62 = .ok (.i2l, 1) := by decide +kernel
theorem dX6_perform_63 : decode cX6_perform 63 = .ok (.aload_n 1, 1) := by decide +kernel
theorem dX6_perform_64 : decode cX6_perform 64 = .ok (.getfield 177, 3) := by decide +kernel
theorem dX6_perform_67 : decode cX6_perform 67 = .ok (.i2l, 1) := by decide +kernel
theorem dX6_perform_68 : decode cX6_perform 68 = .ok (.lmul, 1) := by decide +kernel
theorem dX6_perform_69 : decode cX6_perform 69 = .ok (.lstore 4, 2) := by decide +kernel
theorem dX6_perform_71 : decode cX6_perform 71 = .ok (.aload_n 0, 1) := by decide +kernel
theorem dX6_perform_72 : decode cX6_perform 72 = .ok (.getfield 10, 3) := by decide +kernel
theorem dX6_perform_75 : decode cX6_perform 75 = .ok (.getfield 71, 3) := by decide +kernel
theorem dX6_perform_78 : decode cX6_perform 78 = .ok (.iload_n 2, 1) := by decide +kernel
theorem dX6_perform_79 : decode cX6_perform 79 = .ok (.dup2, 1) := by decide +kernel
theorem dX6_perform_80 : decode cX6_perform 80 = .ok (.laload, 1) := by decide +kernel
theorem dX6_perform_81 : decode cX6_perform 81 = .ok (.aload_n 1, 1) := by decide +kernel
theorem dX6_perform_82 : decode cX6_perform 82 = .ok (.invokevirtual 248, 3) := by decide +kernel
theorem dX6_perform_85 : decode cX6_perform 85 = .ok (.lload 4, 2) := by decide +kernel
theorem dX6_perform_87 : decode cX6_perform 87 = .ok (.lsub, 1) := by decide +kernel
theorem dX6_perform_88 : decode cX6_perform 88 = .ok (.ladd, 1) := by decide +kernel
theorem dX6_perform_89 : decode cX6_perform 89 = .ok (.lastore, 1) := by decide +kernel
theorem dX6_perform_90 : decode cX6_perform 90 = .ok (.aload_n 0, 1) := by decide +kernel
theorem dX6_perform_91 : decode cX6_perform 91 = .ok (.dup, 1) := by decide +kernel
theorem dX6_perform_92 : decode cX6_perform 92 = .ok (.getfield 206, 3) := by decide +kernel
theorem dX6_perform_95 : decode cX6_perform 95 = .ok (.lload 4, 2) := by decide +kernel
theorem dX6_perform_97 : decode cX6_perform 97 = .ok (.ladd, 1) := by decide +kernel
theorem dX6_perform_98 : decode cX6_perform 98 = .ok (.putfield 206, 3) := by decide +kernel
theorem dX6_perform_101 : decode cX6_perform 101 = .ok (.iload_n 3, 1) := by decide +kernel
theorem dX6_perform_102 : decode cX6_perform 102 = .ok (.ifCond .eq 7, 3) := by decide +kernel
theorem dX6_perform_105 : decode cX6_perform 105 = .ok (.iconst 0, 1) := by decide +kernel
theorem dX6_perform_106 : decode cX6_perform 106 = .ok (.goto 4, 3) := by decide +kernel
theorem dX6_perform_109 : decode cX6_perform 109 = .ok (.iconst 1, 1) := by decide +kernel
theorem dX6_perform_110 : decode cX6_perform 110 = .ok (.ireturn, 1) := by decide +kernel
set_option maxRecDepth 20000 in
theorem ggX6_doActs_X6_doAct : GoodIn wsX6_doActs wsX6_doAct := goodIn_r _ [6, 7, 8, 9, 10, 11, 12, 13, 14, 15, 16, 17, 18, 19, 24, 25, 26, 27, 28, 29, 30, 31, 32, 33, 34, 35, 36, 37, 38, 39, 40, 41, 42, 43, 44, 45, 46, 47, 48] (by decide +kernel) (by decide +kernel)
set_option maxRecDepth 20000 in
theorem gX6_doActs_X6_doAct : GoodIn wsX6_doActs (wsV RX6 261 RX6 yX6_doAct wsX6_doAct) := goodIn_app (goodIn_of _ (by decide +kernel)) ggX6_doActs_X6_doAct
set_option maxRecDepth 20000 in
theorem ggX6_doActs_X6_undoActs : GoodIn wsX6_doActs wsX6_undoActs := goodIn_r _ [23, 9, 13, 11, 12, 14, 15, 16, 17, 18, 19, 36, 37, 38, 39, 40, 41, 42, 43, 24, 25, 26, 27, 28, 29, 30, 31, 32, 33, 34, 35, 44, 45, 46, 47, 48] (by decide +kernel) (by decide +kernel)
set_option maxRecDepth 20000 in
theorem gX6_doActs_X6_undoActs : GoodIn wsX6_doActs (wsV RX6 264 RX6 yX6_undoActs wsX6_undoActs) := goodIn_app (goodIn_of _ (by decide +kernel)) ggX6_doActs_X6_undoActs
theorem dX6_doActs_0 : decode cX6_doActs 0 = .ok (.iconst 0, 1) := by decide +kernel
theorem dX6_doActs_1 : decode cX6_doActs 1 = .ok (.istore_n 2, 1) := by decide +kernel
theorem dX6_doActs_2 : decode cX6_doActs 2 = .ok (.iload_n 2, 1) := by decide +kernel
theorem dX6_doActs_3 : decode cX6_doActs 3 = .ok (.aload_n 1, 1) := by decide +kernel
theorem dX6_doActs_4 : decode cX6_doActs 4 = .ok (.getfield 113, 3) := by decide +kernel
theorem dX6_doActs_7 : decode cX6_doActs 7 = .ok (.if_icmp .ge 26, 3) := by decide +kernel
theorem dX6_doActs_10 : decode cX6_doActs 10 = .ok (.aload_n 0, 1) := by decide +kernel
theorem dX6_doActs_11 : decode cX6_doActs 11 = .ok (.aload_n 1, 1) := by decide +kernel
theorem dX6_doActs_12 : decode cX6_doActs 12 = .ok (.iload_n 2, 1) := by decide +kernel
theorem dX6_doActs_13 : decode cX6_doActs 13 = .ok (.invokevirtual 261, 3) := by decide +kernel
theorem dX6_doActs_16 : decode cX6_doActs 16 = .ok (.ifCond .ne 11, 3) := by decide +kernel
theorem dX6_doActs_19 : decode cX6_doActs 19 = .ok (.aload_n 0, 1) := by decide +kernel
theorem dX6_doActs_20 : decode cX6_doActs 20 = .ok (.aload_n 1, 1) := by decide +kernel
theorem dX6_doActs_21 : decode cX6_doActs 21 = .ok (.iload_n 2, 1) := by decide +kernel
theorem dX6_doActs_22 : decode cX6_doActs 22 = .ok (.invokevirtual 264, 3) := by decide +kernel
theorem dX6_doActs_25 : decode cX6_doActs 25 = .ok (.iconst 0, 1) := by decide +kernel
theorem dX6_doActs_26 : decode cX6_doActs 26 = .ok (.ireturn, 1) := by decide +kernel
theorem dX6_doActs_27 : decode cX6_doActs 27 = .ok (.iinc 2 1, 3) := by decide +kernel
theorem dX6_doActs_30 : decode cX6_doActs 30 = .ok (.goto (-28), 3) := by decide +kernel
theorem dX6_doActs_33 : decode cX6_doActs 33 = .ok (.iconst 1, 1) := by decide +kernel
theorem dX6_doActs_34 : decode cX6_doActs 34 = .ok (.ireturn, 1) := by decide +kernel
set_option maxRecDepth 20000 in
theorem ggX6_doAct_X0_move : GoodIn wsX6_doAct wsX0_move := goodIn_r _ [12, 13, 34, 35, 36, 37, 38] (by decide +kernel) (by decide +kernel)
set_option maxRecDepth 20000 in
theorem gX6_doAct_X0_move : GoodIn wsX6_doAct (wsV RX6 274 RX0 yX0_move wsX0_move) := goodIn_app (goodIn_of _ (by decide +kernel)) ggX6_doAct_X0_move
theorem dX6_doAct_0 : decode cX6_doAct 0 = .ok (.aload_n 1, 1) := by decide +kernel
theorem dX6_doAct_1 : decode cX6_doAct 1 = .ok (.getfield 177, 3) := by decide +kernel
theorem dX6_doAct_4 : decode cX6_doAct 4 = .ok (.bipush 10, 2) := by decide +kernel
theorem dX6_doAct_6 : decode cX6_doAct 6 = .ok (.iadd, 1) := by decide +kernel
theorem dX6_doAct_7 : decode cX6_doAct 7 = .ok (.aload_n 1, 1) := by decide +kernel
theorem dX6_doAct_8 : decode cX6_doAct 8 = .ok (.getfield 255, 3) := by decide +kernel
theorem dX6_doAct_11 : decode cX6_doAct 11 = .ok (.if_icmp .le 5, 3) := by decide +kernel
theorem dX6_doAct_14 : decode cX6_doAct 14 = .ok (.iconst 0, 1) := by decide +kernel
theorem dX6_doAct_15 : decode cX6_doAct 15 = .ok (.ireturn, 1) := by decide +kernel
theorem dX6_doAct_16 : decode cX6_doAct 16 = .ok (.aload_n 1, 1) := by decide +kernel
theorem dX6_doAct_17 : decode cX6_doAct 17 = .ok (.dup, 1) := by decide +kernel
theorem dX6_doAct_18 : decode cX6_doAct 18 = .ok (.getfield 177, 3) := by decide +kernel
theorem dX6_doAct_21 : decode cX6_doAct 21 = .ok (.bipush 10, 2) := by decide +kernel
theorem dX6_doAct_23 : decode cX6_doAct 23 = .ok (.iadd, 1) := by decide +kernel
theorem dX6_doAct_24 : decode cX6_doAct 24 = .ok (.putfield 177, 3) := by decide +kernel
theorem dX6_doAct_27 : decode cX6_doAct 27 = .ok (.aload_n 0, 1) := by decide +kernel
theorem dX6_doAct_28 : decode cX6_doAct 28 = .ok (.getfield 10, 3) := by decide +kernel
theorem dX6_doAct_31 : decode cX6_doAct 31 = .ok (.getfield 71, 3) := by decide +kernel
theorem dX6_doAct_34 : decode cX6_doAct 34 = .ok (.aload_n 1, 1) := by decide +kernel
theorem dX6_doAct_35 : decode cX6_doAct 35 = .ok (.getfield 130, 3) := by decide +kernel
theorem dX6_doAct_38 : decode cX6_doAct 38 = .ok (.laload, 1) := by decide +kernel
theorem dX6_doAct_39 : decode cX6_doAct 39 = .ok (.aload_n 1, 1) := by decide +kernel
theorem dX6_doAct_40 : decode cX6_doAct 40 = .ok (.getfield 268, 3) := by decide +kernel
theorem dX6_doAct_43 : decode cX6_doAct 43 = .ok (.iload_n 2, 1) := by decide +kernel
theorem dX6_doAct_44 : decode cX6_doAct 44 = .ok (.laload, 1) := by decide +kernel
theorem dX6_doAct_45 : decode cX6_doAct 45 = .ok (.lcmp, 1) := by decide +kernel
theorem dX6_doAct_46 : decode cX6_doAct 46 = .ok (.ifCond .ge 5, 3) := by decide +kernel
theorem dX6_doAct_49 : decode cX6_doAct 49 = .ok (.iconst 0, 1) := by decide +kernel
theorem dX6_doAct_50 : decode cX6_doAct 50 = .ok (.ireturn, 1) := by decide +kernel
theorem dX6_doAct_51 : decode cX6_doAct 51 = .ok (.aload_n 0, 1) := by decide +kernel
theorem dX6_doAct_52 : decode cX6_doAct 52 = .ok (.getfield 10, 3) := by decide +kernel
theorem dX6_doAct_55 : decode cX6_doAct 55 = .ok (.aload_n 1, 1) := by decide +kernel
theorem dX6_doAct_56 : decode cX6_doAct 56 = .ok (.getfield 130, 3) := by decide +kernel
theorem dX6_doAct_59 : decode cX6_doAct 59 = .ok (.aload_n 1, 1) := by decide +kernel
theorem dX6_doAct_60 : decode cX6_doAct 60 = .ok (.getfield 271, 3) := by decide +kernel
theorem dX6_doAct_63 : decode cX6_doAct 63 = .ok (.iload_n 2, 1) := by decide +kernel
theorem dX6_doAct_64 : decode cX6_doAct 64 = .ok (.iaload, 1) := by decide +kernel
theorem dX6_doAct_65 : decode cX6_doAct 65 = .ok (.aload_n 1, 1) := by decide +kernel
theorem dX6_doAct_66 : decode cX6_doAct 66 = .ok (.getfield 268, 3) := by decide +kernel
theorem dX6_doAct_69 : decode cX6_doAct 69 = .ok (.iload_n 2, 1) := by decide +kernel
theorem dX6_doAct_70 : decode cX6_doAct 70 = .ok (.laload, 1) := by decide +kernel
theorem dX6_doAct_71 : decode cX6_doAct 71 = .ok (.invokevirtual 274, 3) := by decide +kernel
theorem dX6_doAct_74 : decode cX6_doAct 74 = .ok (.iconst 1, 1) := by decide +kernel
theorem dX6_doAct_75 : decode cX6_doAct 75 = .ok (.ireturn, 1) := by decide +kernel
set_option maxRecDepth 20000 in
theorem ggX6_undoActs_X0_move : GoodIn wsX6_undoActs wsX0_move := goodIn_r _ [9, 10, 31, 32, 33, 34, 35] (by decide +kernel) (by decide +kernel)
set_option maxRecDepth 20000 in
theorem gX6_undoActs_X0_move : GoodIn wsX6_undoActs (wsV RX6 274 RX0 yX0_move wsX0_move) := goodIn_app (goodIn_of _ (by decide +kernel)) ggX6_undoActs_X0_move
theorem dX6_undoActs_0 : decode cX6_undoActs 0 = .ok (.iconst 0, 1) := by decide +kernel
theorem dX6_undoActs_1 : decode cX6_undoActs 1 = .ok (.istore_n 3, 1) := by decide +kernel
theorem dX6_undoActs_2 : decode cX6_undoActs 2 = .ok (.iload_n 3, 1) := by decide +kernel
theorem dX6_undoActs_3 : decode cX6_undoActs 3 = .ok (.iload_n 2, 1) := by decide +kernel
theorem dX6_undoActs_4 : decode cX6_undoActs 4 = .ok (.if_icmp .ge 32, 3) := by decide +kernel
theorem dX6_undoActs_7 : decode cX6_undoActs 7 = .ok (.aload_n 0, 1) := by decide +kernel
theorem dX6_undoActs_8 : decode cX6_undoActs 8 = .ok (.getfield 10, 3) := by decide +kernel
theorem dX6_undoActs_11 : decode cX6_undoActs 11 = .ok (.aload_n 1, 1) := by decide +kernel
theorem dX6_undoActs_12 : decode cX6_undoActs 12 = .ok (.getfield 271, 3) := by decide +kernel
theorem dX6_undoActs_15 : decode cX6_undoActs 15 = .ok (.iload_n 3, 1) := by decide +kernel
theorem dX6_undoActs_16 : decode cX6_undoActs 16 = .ok (.iaload, 1) := by decide +kernel
theorem dX6_undoActs_17 : decode cX6_undoActs 17 = .ok (.aload_n 1, 1) := by decide +kernel
theorem dX6_undoActs_18 : decode cX6_undoActs 18 = .ok (.getfield 130, 3) := by decide +kernel
theorem dX6_undoActs_21 : decode cX6_undoActs 21 = .ok (.aload_n 1, 1) := by decide +kernel
theorem dX6_undoActs_22 : decode cX6_undoActs 22 = .ok (.getfield 268, 3) := by decide +kernel
theorem dX6_undoActs_25 : decode cX6_undoActs 25 = .ok (.iload_n 3, 1) := by decide +kernel
theorem dX6_undoActs_26 : decode cX6_undoActs 26 = .ok (.laload, 1) := by decide +kernel
theorem dX6_undoActs_27 : decode cX6_undoActs 27 = .ok (.invokevirtual 274, 3) := by decide +kernel
theorem dX6_undoActs_30 : decode cX6_undoActs 30 = .ok (.iinc 3 1, 3) := by decide +kernel
theorem dX6_undoActs_33 : decode cX6_undoActs 33 = .ok (.goto (-31), 3) := by decide +kernel
theorem dX6_undoActs_36 : decode cX6_undoActs 36 = .ok (.return_, 1) := by decide +kernel
