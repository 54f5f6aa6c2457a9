theorem dX7_init_0 : decode cX7_init 0 = .ok (.aload_n 0, 1) := by decide +kernel
theorem dX7_init_1 : decode cX7_init 1 = .ok (.invokespecial 1, 3) := by decide +kernel
theorem dX7_init_4 : decode cX7_init 4 = .ok (.aload_n 0, 1) := by decide +kernel
theorem dX7_init_5 : decode cX7_init 5 = .ok (.bipush 12, 2) := by decide +kernel
theorem dX7_init_7 : decode cX7_init 7 = .ok (.newarray .long, 2) := by decide +kernel
theorem dX7_init_9 : decode cX7_init 9 = .ok (.putfield 7, 3) := by decide +kernel
theorem dX7_init_12 : decode cX7_init 12 = .ok (.aload_n 0, 1) := by decide +kernel
theorem dX7_init_13 : decode cX7_init 13 = .ok (.bipush 12, 2) := by decide +kernel
theorem dX7_init_15 : decode cX7_init 15 = .ok (.newarray .int, 2) := by decide +kernel
theorem dX7_init_17 : decode cX7_init 17 = .ok (.putfield 13, 3) := by decide +kernel
theorem dX7_init_20 : decode cX7_init 20 = .ok (.aload_n 0, 1) := by decide +kernel
theorem dX7_init_21 : decode cX7_init 21 = .ok (.bipush 12, 2) := by decide +kernel
theorem dX7_init_23 : decode cX7_init 23 = .ok (.newarray .int, 2) := by decide +kernel
theorem dX7_init_25 : decode cX7_init 25 = .ok (.putfield 17, 3) := by decide +kernel
theorem dX7_init_28 : decode cX7_init 28 = .ok (.aload_n 0, 1) := by decide +kernel
theorem dX7_init_29 : decode cX7_init 29 = .ok (.bipush 12, 2) := by decide +kernel
theorem dX7_init_31 : decode cX7_init 31 = .ok (.newarray .int, 2) := by decide +kernel
theorem dX7_init_33 : decode cX7_init 33 = .ok (.putfield 20, 3) := by decide +kernel
theorem dX7_init_36 : decode cX7_init 36 = .ok (.aload_n 0, 1) := by decide +kernel
theorem dX7_init_37 : decode cX7_init 37 = .ok (.sipush 200, 3) := by decide +kernel
theorem dX7_init_40 : decode cX7_init 40 = .ok (.newarray .int, 2) := by decide +kernel
theorem dX7_init_42 : decode cX7_init 42 = .ok (.putfield 23, 3) := by decide +kernel
theorem dX7_init_45 : decode cX7_init 45 = .ok (.aload_n 0, 1) := by decide +kernel
theorem dX7_init_46 : decode cX7_init 46 = .ok (.sipush 200, 3) := by decide +kernel
theorem dX7_init_49 : decode cX7_init 49 = .ok (.newarray .long, 2) := by decide +kernel
theorem dX7_init_51 : decode cX7_init 51 = .ok (.putfield 26, 3) := by decide +kernel
theorem dX7_init_54 : decode cX7_init 54 = .ok (.aload_n 0, 1) := by decide +kernel
theorem dX7_init_55 : decode cX7_init 55 = .ok (.sipush 442, 3) := by decide +kernel
theorem dX7_init_58 : decode cX7_init 58 = .ok (.newarray .long, 2) := by decide +kernel
theorem dX7_init_60 : decode cX7_init 60 = .ok (.putfield 29, 3) := by decide +kernel
theorem dX7_init_63 : decode cX7_init 63 = .ok (.aload_n 0, 1) := by decide +kernel
theorem dX7_init_64 : decode cX7_init 64 = .ok (.bipush 12, 2) := by decide +kernel
theorem dX7_init_66 : decode cX7_init 66 = .ok (.newarray .int, 2) := by decide +kernel
theorem dX7_init_68 : decode cX7_init 68 = .ok (.putfield 32, 3) := by decide +kernel
theorem dX7_init_71 : decode cX7_init 71 = .ok (.aload_n 0, 1) := by decide +kernel
theorem dX7_init_72 : decode cX7_init 72 = .ok (.iconst 1, 1) := by decide +kernel
theorem dX7_init_73 : decode cX7_init 73 = .ok (.putfield 35, 3) := by decide +kernel
theorem dX7_init_76 : decode cX7_init 76 = .ok (.aload_n 0, 1) := by decide +kernel
theorem dX7_init_77 : decode cX7_init 77 = .ok (.sipush 180, 3) := by decide +kernel
theorem dX7_init_80 : decode cX7_init 80 = .ok (.newarray .int, 2) := by decide +kernel
theorem dX7_init_82 : decode cX7_init 82 = .ok (.putfield 39, 3) := by decide +kernel
theorem dX7_init_85 : decode cX7_init 85 = .ok (.aload_n 0, 1) := by decide +kernel
theorem dX7_init_86 : decode cX7_init 86 = .ok (.bipush 12, 2) := by decide +kernel
theorem dX7_init_88 : decode cX7_init 88 = .ok (.newarray .long, 2) := by decide +kernel
theorem dX7_init_90 : decode cX7_init 90 = .ok (.putfield 42, 3) := by decide +kernel
theorem dX7_init_93 : decode cX7_init 93 = .ok (.return_, 1) := by decide +kernel
theorem dX7_in_0 : decode cX7_in 0 = .ok (.lload_n 0, 1) := by decide +kernel
theorem dX7_in_1 : decode cX7_in 1 = .ok (.lload_n 2, 1) := by decide +kernel
theorem dX7_in_2 : decode cX7_in 2 = .ok (.lcmp, 1) := by decide +kernel
theorem dX7_in_3 : decode cX7_in 3 = .ok (.ifCond .lt 14, 3) := by decide +kernel
theorem dX7_in_6 : decode cX7_in 6 = .ok (.lload_n 0, 1) := by decide +kernel
theorem dX7_in_7 : decode cX7_in 7 = .ok (.lload 4, 2) := by decide +kernel
theorem dX7_in_9 : decode cX7_in 9 = .ok (.lcmp, 1) := by decide +kernel
theorem dX7_in_10 : decode cX7_in 10 = .ok (.ifCond .gt 7, 3) := by decide +kernel
theorem dX7_in_13 : decode cX7_in 13 = .ok (.iconst 1, 1) := by decide +kernel
theorem dX7_in_14 : decode cX7_in 14 = .ok (.goto 4, 3) := by decide +kernel
theorem dX7_in_17 : decode cX7_in 17 = .ok (.iconst 0, 1) := by decide +kernel
theorem dX7_in_18 : decode cX7_in 18 = .ok (.ireturn, 1) := by decide +kernel
set_option maxRecDepth 20000 in
theorem ggX7_isAccount_X7_in : GoodIn wsX7_isAccount wsX7_in := goodIn_r _ [5] (by decide +kernel) (by decide +kernel)
set_option maxRecDepth 20000 in
theorem gX7_isAccount_X7_in : GoodIn wsX7_isAccount (va_wsS RX7 48 yX7_in wsX7_in) := goodIn_app (goodIn_of _ (by decide +kernel)) ggX7_isAccount_X7_in
theorem dX7_isAccount_0 : decode cX7_isAccount 0 = .ok (.iload_n 1, 1) := by decide +kernel
theorem dX7_isAccount_1 : decode cX7_isAccount 1 = .ok (.i2l, 1) := by decide +kernel
theorem dX7_isAccount_2 : decode cX7_isAccount 2 = .ok (.lconst 0, 1) := by decide +kernel
theorem dX7_isAccount_3 : decode cX7_isAccount 3 = .ok (.aload_n 0, 1) := by decide +kernel
theorem dX7_isAccount_4 : decode cX7_isAccount 4 = .ok (.getfield 45, 3) := by decide +kernel
theorem dX7_isAccount_7 : decode cX7_isAccount 7 = .ok (.iconst 1, 1) := by decide +kernel
theorem dX7_isAccount_8 : decode cX7_isAccount 8 = .ok (.isub, 1) := by decide +kernel
theorem dX7_isAccount_9 : decode cX7_isAccount 9 = .ok (.i2l, 1) := by decide +kernel
theorem dX7_isAccount_10 : decode cX7_isAccount 10 = .ok (.invokestatic 48, 3) := by decide +kernel
theorem dX7_isAccount_13 : decode cX7_isAccount 13 = .ok (.ireturn, 1) := by decide +kernel
set_option maxRecDepth 20000 in
theorem ggX7_isLock_X7_in : GoodIn wsX7_isLock wsX7_in := goodIn_r _ [5] (by decide +kernel) (by decide +kernel)
set_option maxRecDepth 20000 in
theorem gX7_isLock_X7_in : GoodIn wsX7_isLock (va_wsS RX7 48 yX7_in wsX7_in) := goodIn_app (goodIn_of _ (by decide +kernel)) ggX7_isLock_X7_in
theorem dX7_isLock_0 : decode cX7_isLock 0 = .ok (.iconst 0, 1) := by decide +kernel
theorem dX7_isLock_1 : decode cX7_isLock 1 = .ok (.istore_n 2, 1) := by decide +kernel
theorem dX7_isLock_2 : decode cX7_isLock 2 = .ok (.iconst 0, 1) := by decide +kernel
theorem dX7_isLock_3 : decode cX7_isLock 3 = .ok (.istore_n 3, 1) := by decide +kernel
theorem dX7_isLock_4 : decode cX7_isLock 4 = .ok (.iload_n 3, 1) := by decide +kernel
theorem dX7_isLock_5 : decode cX7_isLock 5 = .ok (.bipush 16, 2) := by decide +kernel
theorem dX7_isLock_7 : decode cX7_isLock 7 = .ok (.if_icmp .ge 17, 3) := by decide +kernel
theorem dX7_isLock_10 : decode cX7_isLock 10 = .ok (.iload_n 2, 1) := by decide +kernel
theorem dX7_isLock_11 : decode cX7_isLock 11 = .ok (.iload_n 0, 1) := by decide +kernel
theorem dX7_isLock_12 : decode cX7_isLock 12 = .ok (.iload_n 3, 1) := by decide +kernel
theorem dX7_isLock_13 : decode cX7_isLock 13 = .ok (.ishr, 1) := by decide +kernel
theorem dX7_isLock_14 : decode cX7_isLock 14 = .ok (.iconst 1, 1) := by decide +kernel
theorem dX7_isLock_15 : decode cX7_isLock 15 = .ok (.iand, 1) := by decide +kernel
theorem dX7_isLock_16 : decode cX7_isLock 16 = .ok (.iadd, 1) := by decide +kernel
theorem dX7_isLock_17 : decode cX7_isLock 17 = .ok (.istore_n 2, 1) := by decide +kernel
theorem dX7_isLock_18 : decode cX7_isLock 18 = .ok (.iinc 3 1, 3) := by decide +kernel
theorem dX7_isLock_21 : decode cX7_isLock 21 = .ok (.goto (-17), 3) := by decide +kernel
theorem dX7_isLock_24 : decode cX7_isLock 24 = .ok (.iload_n 0, 1) := by decide +kernel
theorem dX7_isLock_25 : decode cX7_isLock 25 = .ok (.i2l, 1) := by decide +kernel
theorem dX7_isLock_26 : decode cX7_isLock 26 = .ok (.lconst 1, 1) := by decide +kernel
theorem dX7_isLock_27 : decode cX7_isLock 27 = .ok (.ldc2_w 52, 3) := by decide +kernel
theorem dX7_isLock_30 : decode cX7_isLock 30 = .ok (.invokestatic 48, 3) := by decide +kernel
theorem dX7_isLock_33 : decode cX7_isLock 33 = .ok (.ifCond .eq 18, 3) := by decide +kernel
theorem dX7_isLock_36 : decode cX7_isLock 36 = .ok (.iload_n 1, 1) := by decide +kernel
theorem dX7_isLock_37 : decode cX7_isLock 37 = .ok (.i2l, 1) := by decide +kernel
theorem dX7_isLock_38 : decode cX7_isLock 38 = .ok (.lconst 1, 1) := by decide +kernel
theorem dX7_isLock_39 : decode cX7_isLock 39 = .ok (.iload_n 2, 1) := by decide +kernel
theorem dX7_isLock_40 : decode cX7_isLock 40 = .ok (.i2l, 1) := by decide +kernel
theorem dX7_isLock_41 : decode cX7_isLock 41 = .ok (.invokestatic 48, 3) := by decide +kernel
theorem dX7_isLock_44 : decode cX7_isLock 44 = .ok (.ifCond .eq 7, 3) := by decide +kernel
theorem dX7_isLock_47 : decode cX7_isLock 47 = .ok (.iconst 1, 1) := by decide +kernel
theorem dX7_isLock_48 : decode cX7_isLock 48 = .ok (.goto 4, 3) := by decide +kernel
theorem dX7_isLock_51 : decode cX7_isLock 51 = .ok (.iconst 0, 1) := by decide +kernel
theorem dX7_isLock_52 : decode cX7_isLock 52 = .ok (.ireturn, 1) := by decide +kernel
set_option maxRecDepth 20000 in
theorem ggX7_account_X7_in : GoodIn wsX7_account wsX7_in := goodIn_r _ [9] (by decide +kernel) (by decide +kernel)
set_option maxRecDepth 20000 in
theorem gX7_account_X7_in : GoodIn wsX7_account (va_wsS RX7 48 yX7_in wsX7_in) := goodIn_app (goodIn_of _ (by decide +kernel)) ggX7_account_X7_in
set_option maxRecDepth 20000 in
theorem ggX7_account_X7_isLock : GoodIn wsX7_account wsX7_isLock := goodIn_r _ [12, 13, 6, 7, 8, 9] (by decide +kernel) (by decide +kernel)
set_option maxRecDepth 20000 in
theorem gX7_account_X7_isLock : GoodIn wsX7_account (va_wsS RX7 56 yX7_isLock wsX7_isLock) := goodIn_app (goodIn_of _ (by decide +kernel)) ggX7_account_X7_isLock
theorem dX7_account_0 : decode cX7_account 0 = .ok (.lload_n 1, 1) := by decide +kernel
theorem dX7_account_1 : decode cX7_account 1 = .ok (.lconst 0, 1) := by decide +kernel
theorem dX7_account_2 : decode cX7_account 2 = .ok (.ldc2_w 54, 3) := by decide +kernel
theorem dX7_account_5 : decode cX7_account 5 = .ok (.invokestatic 48, 3) := by decide +kernel
theorem dX7_account_8 : decode cX7_account 8 = .ok (.ifCond .eq 12, 3) := by decide +kernel
theorem dX7_account_11 : decode cX7_account 11 = .ok (.iload_n 3, 1) := by decide +kernel
theorem dX7_account_12 : decode cX7_account 12 = .ok (.iload 4, 2) := by decide +kernel
theorem dX7_account_14 : decode cX7_account 14 = .ok (.invokestatic 56, 3) := by decide +kernel
theorem dX7_account_17 : decode cX7_account 17 = .ok (.ifCond .ne 5, 3) := by decide +kernel
theorem dX7_account_20 : decode cX7_account 20 = .ok (.iconst (-1), 1) := by decide +kernel
theorem dX7_account_21 : decode cX7_account 21 = .ok (.ireturn, 1) := by decide +kernel
theorem dX7_account_22 : decode cX7_account 22 = .ok (.aload_n 0, 1) := by decide +kernel
theorem dX7_account_23 : decode cX7_account 23 = .ok (.getfield 45, 3) := by decide +kernel
theorem dX7_account_26 : decode cX7_account 26 = .ok (.bipush 12, 2) := by decide +kernel
theorem dX7_account_28 : decode cX7_account 28 = .ok (.if_icmp .ne 6, 3) := by decide +kernel
theorem dX7_account_31 : decode cX7_account 31 = .ok (.bipush (-3), 2) := by decide +kernel
theorem dX7_account_33 : decode cX7_account 33 = .ok (.ireturn, 1) := by decide +kernel
theorem dX7_account_34 : decode cX7_account 34 = .ok (.aload_n 0, 1) := by decide +kernel
theorem dX7_account_35 : decode cX7_account 35 = .ok (.getfield 7, 3) := by decide +kernel
theorem dX7_account_38 : decode cX7_account 38 = .ok (.aload_n 0, 1) := by decide +kernel
theorem dX7_account_39 : decode cX7_account 39 = .ok (.getfield 45, 3) := by decide +kernel
theorem dX7_account_42 : decode cX7_account 42 = .ok (.lload_n 1, 1) := by decide +kernel
theorem dX7_account_43 : decode cX7_account 43 = .ok (.lastore, 1) := by decide +kernel
theorem dX7_account_44 : decode cX7_account 44 = .ok (.aload_n 0, 1) := by decide +kernel
theorem dX7_account_45 : decode cX7_account 45 = .ok (.getfield 17, 3) := by decide +kernel
theorem dX7_account_48 : decode cX7_account 48 = .ok (.aload_n 0, 1) := by decide +kernel
theorem dX7_account_49 : decode cX7_account 49 = .ok (.getfield 45, 3) := by decide +kernel
theorem dX7_account_52 : decode cX7_account 52 = .ok (.iload_n 3, 1) := by decide +kernel
theorem dX7_account_53 : decode cX7_account 53 = .ok (.iastore, 1) := by decide +kernel
theorem dX7_account_54 : decode cX7_account 54 = .ok (.aload_n 0, 1) := by decide +kernel
theorem dX7_account_55 : decode cX7_account 55 = .ok (.getfield 20, 3) := by decide +kernel
theorem dX7_account_58 : decode cX7_account 58 = .ok (.aload_n 0, 1) := by decide +kernel
theorem dX7_account_59 : decode cX7_account 59 = .ok (.getfield 45, 3) := by decide +kernel
theorem dX7_account_62 : decode cX7_account 62 = .ok (.iload 4, 2) := by decide +kernel
theorem dX7_account_64 : decode cX7_account 64 = .ok (.iastore, 1) := by decide +kernel
theorem dX7_account_65 : decode cX7_account 65 = .ok (.aload_n 0, 1) := by decide +kernel
theorem dX7_account_66 : decode cX7_account 66 = .ok (.dup, 1) := by decide +kernel
theorem dX7_account_67 : decode cX7_account 67 = .ok (.getfield 45, 3) := by decide +kernel
theorem dX7_account_70 : decode cX7_account 70 = .ok (.iconst 1, 1) := by decide +kernel
theorem dX7_account_71 : decode cX7_account 71 = .ok (.iadd, 1) := by decide +kernel
theorem dX7_account_72 : decode cX7_account 72 = .ok (.putfield 45, 3) := by decide +kernel
theorem dX7_account_75 : decode cX7_account 75 = .ok (.aload_n 0, 1) := by decide +kernel
theorem dX7_account_76 : decode cX7_account 76 = .ok (.getfield 45, 3) := by decide +kernel
theorem dX7_account_79 : decode cX7_account 79 = .ok (.iconst 1, 1) := by decide +kernel
theorem dX7_account_80 : decode cX7_account 80 = .ok (.isub, 1) := by decide +kernel
theorem dX7_account_81 : decode cX7_account 81 = .ok (.ireturn, 1) := by decide +kernel
set_option maxRecDepth 20000 in
theorem ggX7_lock_X7_isAccount : GoodIn wsX7_lock wsX7_isAccount := goodIn_r _ [7, 8, 9, 10, 6, 11, 16, 17, 18, 19, 20, 21, 22, 23, 24, 25, 26, 27, 28, 29, 30, 31, 32, 33, 34, 35, 36] (by decide +kernel) (by decide +kernel)
set_option maxRecDepth 20000 in
theorem gX7_lock_X7_isAccount : GoodIn wsX7_lock (wsV RX7 60 RX7 yX7_isAccount wsX7_isAccount) := goodIn_app (goodIn_of _ (by decide +kernel)) ggX7_lock_X7_isAccount
set_option maxRecDepth 20000 in
theorem ggX7_lock_X7_isLock : GoodIn wsX7_lock wsX7_isLock := goodIn_r _ [14, 15, 9, 10, 6, 11] (by decide +kernel) (by decide +kernel)
set_option maxRecDepth 20000 in
theorem gX7_lock_X7_isLock : GoodIn wsX7_lock (va_wsS RX7 56 yX7_isLock wsX7_isLock) := goodIn_app (goodIn_of _ (by decide +kernel)) ggX7_lock_X7_isLock
theorem dX7_lock_0 : decode cX7_lock 0 = .ok (.aload_n 0, 1) := by decide +kernel
theorem dX7_lock_1 : decode cX7_lock 1 = .ok (.iload_n 1, 1) := by decide +kernel
theorem dX7_lock_2 : decode cX7_lock 2 = .ok (.invokevirtual 60, 3) := by decide +kernel
theorem dX7_lock_5 : decode cX7_lock 5 = .ok (.ifCond .eq 11, 3) := by decide +kernel
theorem dX7_lock_8 : decode cX7_lock 8 = .ok (.iload_n 2, 1) := by decide +kernel
theorem dX7_lock_9 : decode cX7_lock 9 = .ok (.iload_n 3, 1) := by decide +kernel
theorem dX7_lock_10 : decode cX7_lock 10 = .ok (.invokestatic 56, 3) := by decide +kernel
theorem dX7_lock_13 : decode cX7_lock 13 = .ok (.ifCond .ne 5, 3) := by decide +kernel
theorem dX7_lock_16 : decode cX7_lock 16 = .ok (.iconst (-1), 1) := by decide +kernel
theorem dX7_lock_17 : decode cX7_lock 17 = .ok (.ireturn, 1) := by decide +kernel
theorem dX7_lock_18 : decode cX7_lock 18 = .ok (.aload_n 0, 1) := by decide +kernel
theorem dX7_lock_19 : decode cX7_lock 19 = .ok (.getfield 17, 3) := by decide +kernel
theorem dX7_lock_22 : decode cX7_lock 22 = .ok (.iload_n 1, 1) := by decide +kernel
theorem dX7_lock_23 : decode cX7_lock 23 = .ok (.iload_n 2, 1) := by decide +kernel
theorem dX7_lock_24 : decode cX7_lock 24 = .ok (.iastore, 1) := by decide +kernel
theorem dX7_lock_25 : decode cX7_lock 25 = .ok (.aload_n 0, 1) := by decide +kernel
theorem dX7_lock_26 : decode cX7_lock 26 = .ok (.getfield 20, 3) := by decide +kernel
theorem dX7_lock_29 : decode cX7_lock 29 = .ok (.iload_n 1, 1) := by decide +kernel
theorem dX7_lock_30 : decode cX7_lock 30 = .ok (.iload_n 3, 1) := by decide +kernel
theorem dX7_lock_31 : decode cX7_lock 31 = .ok (.iastore, 1) := by decide +kernel
theorem dX7_lock_32 : decode cX7_lock 32 = .ok (.iconst 1, 1) := by decide +kernel
theorem dX7_lock_33 : decode cX7_lock 33 = .ok (.ireturn, 1) := by decide +kernel
set_option maxRecDepth 20000 in
theorem ggX7_funds_X7_isAccount : GoodIn wsX7_funds wsX7_isAccount := goodIn_r _ [7, 8, 9, 10, 6, 11, 12, 13, 14, 15, 16, 17, 18, 19, 20, 21, 22, 23, 24, 25, 26, 27, 28, 29, 30, 31, 32] (by decide +kernel) (by decide +kernel)
set_option maxRecDepth 20000 in
theorem gX7_funds_X7_isAccount : GoodIn wsX7_funds (wsV RX7 60 RX7 yX7_isAccount wsX7_isAccount) := goodIn_app (goodIn_of _ (by decide +kernel)) ggX7_funds_X7_isAccount
theorem dX7_funds_0 : decode cX7_funds 0 = .ok (.aload_n 0, 1) := by decide +kernel
theorem dX7_funds_1 : decode cX7_funds 1 = .ok (.iload_n 1, 1) := by decide +kernel
theorem dX7_funds_2 : decode cX7_funds 2 = .ok (.invokevirtual 60, 3) := by decide +kernel
theorem dX7_funds_5 : decode cX7_funds 5 = .ok (.ifCond .eq 12, 3) := by decide +kernel
theorem dX7_funds_8 : decode cX7_funds 8 = .ok (.aload_n 0, 1) := by decide +kernel
theorem dX7_funds_9 : decode cX7_funds 9 = .ok (.getfield 7, 3) := by decide +kernel
theorem dX7_funds_12 : decode cX7_funds 12 = .ok (.iload_n 1, 1) := by decide +kernel
theorem dX7_funds_13 : decode cX7_funds 13 = .ok (.laload, 1) := by decide +kernel
theorem dX7_funds_14 : decode cX7_funds 14 = .ok (.goto 6, 3) := by decide +kernel
theorem dX7_funds_17 : decode cX7_funds 17 = .ok (.ldc2_w 64, 3) := by decide +kernel
theorem dX7_funds_20 : decode cX7_funds 20 = .ok (.lreturn, 1) := by decide +kernel
set_option maxRecDepth 20000 in
theorem ggX7_next_X7_isAccount : GoodIn wsX7_next wsX7_isAccount := goodIn_r _ [6, 7, 8, 9, 5, 10, 11, 12, 13, 14, 15, 16, 17, 18, 19, 20, 21, 22, 23, 24, 25, 26, 27, 28, 29, 30, 31] (by decide +kernel) (by decide +kernel)
set_option maxRecDepth 20000 in
theorem gX7_next_X7_isAccount : GoodIn wsX7_next (wsV RX7 60 RX7 yX7_isAccount wsX7_isAccount) := goodIn_app (goodIn_of _ (by decide +kernel)) ggX7_next_X7_isAccount
theorem dX7_next_0 : decode cX7_next 0 = .ok (.aload_n 0, 1) := by decide +kernel
theorem dX7_next_1 : decode cX7_next 1 = .ok (.iload_n 1, 1) := by decide +kernel
theorem dX7_next_2 : decode cX7_next 2 = .ok (.invokevirtual 60, 3) := by decide +kernel
theorem dX7_next_5 : decode cX7_next 5 = .ok (.ifCond .eq 12, 3) := by decide +kernel
theorem dX7_next_8 : decode cX7_next 8 = .ok (.aload_n 0, 1) := by decide +kernel
theorem dX7_next_9 : decode cX7_next 9 = .ok (.getfield 13, 3) := by decide +kernel
theorem dX7_next_12 : decode cX7_next 12 = .ok (.iload_n 1, 1) := by decide +kernel
theorem dX7_next_13 : decode cX7_next 13 = .ok (.iaload, 1) := by decide +kernel
theorem dX7_next_14 : decode cX7_next 14 = .ok (.goto 4, 3) := by decide +kernel
theorem dX7_next_17 : decode cX7_next 17 = .ok (.iconst (-1), 1) := by decide +kernel
theorem dX7_next_18 : decode cX7_next 18 = .ok (.ireturn, 1) := by decide +kernel
set_option maxRecDepth 20000 in
theorem ggX7_sign_X7_in : GoodIn wsX7_sign wsX7_in := goodIn_r _ [8] (by decide +kernel) (by decide +kernel)
set_option maxRecDepth 20000 in
theorem gX7_sign_X7_in : GoodIn wsX7_sign (va_wsS RX7 48 yX7_in wsX7_in) := goodIn_app (goodIn_of _ (by decide +kernel)) ggX7_sign_X7_in
theorem dX7_sign_0 : decode cX7_sign 0 = .ok (.iload_n 1, 1) := by decide +kernel
theorem dX7_sign_1 : decode cX7_sign 1 = .ok (.i2l, 1) := by decide +kernel
theorem dX7_sign_2 : decode cX7_sign 2 = .ok (.lconst 0, 1) := by decide +kernel
theorem dX7_sign_3 : decode cX7_sign 3 = .ok (.ldc2_w 66, 3) := by decide +kernel
theorem dX7_sign_6 : decode cX7_sign 6 = .ok (.invokestatic 48, 3) := by decide +kernel
theorem dX7_sign_9 : decode cX7_sign 9 = .ok (.ifCond .ne 5, 3) := by decide +kernel
theorem dX7_sign_12 : decode cX7_sign 12 = .ok (.iconst (-1), 1) := by decide +kernel
theorem dX7_sign_13 : decode cX7_sign 13 = .ok (.ireturn, 1) := by decide +kernel
theorem dX7_sign_14 : decode cX7_sign 14 = .ok (.aload_n 0, 1) := by decide +kernel
theorem dX7_sign_15 : decode cX7_sign 15 = .ok (.getfield 68, 3) := by decide +kernel
theorem dX7_sign_18 : decode cX7_sign 18 = .ok (.sipush 200, 3) := by decide +kernel
theorem dX7_sign_21 : decode cX7_sign 21 = .ok (.if_icmp .ne 6, 3) := by decide +kernel
theorem dX7_sign_24 : decode cX7_sign 24 = .ok (.bipush (-3), 2) := by decide +kernel
theorem dX7_sign_26 : decode cX7_sign 26 = .ok (.ireturn, 1) := by decide +kernel
theorem dX7_sign_27 : decode cX7_sign 27 = .ok (.aload_n 0, 1) := by decide +kernel
theorem dX7_sign_28 : decode cX7_sign 28 = .ok (.getfield 23, 3) := by decide +kernel
theorem dX7_sign_31 : decode cX7_sign 31 = .ok (.aload_n 0, 1) := by decide +kernel
theorem dX7_sign_32 : decode cX7_sign 32 = .ok (.getfield 68, 3) := by decide +kernel
theorem dX7_sign_35 : decode cX7_sign 35 = .ok (.iload_n 1, 1) := by decide +kernel
theorem dX7_sign_36 : decode cX7_sign 36 = .ok (.iastore, 1) := by decide +kernel
theorem dX7_sign_37 : decode cX7_sign 37 = .ok (.aload_n 0, 1) := by decide +kernel
theorem dX7_sign_38 : decode cX7_sign 38 = .ok (.getfield 26, 3) := by decide +kernel
theorem dX7_sign_41 : decode cX7_sign 41 = .ok (.aload_n 0, 1) := by decide +kernel
theorem dX7_sign_42 : decode cX7_sign 42 = .ok (.getfield 68, 3) := by decide +kernel
theorem dX7_sign_45 : decode cX7_sign 45 = .ok (.lload_n 2, 1) := by decide +kernel
theorem dX7_sign_46 : decode cX7_sign 46 = .ok (.lastore, 1) := by decide +kernel
theorem dX7_sign_47 : decode cX7_sign 47 = .ok (.aload_n 0, 1) := by decide +kernel
theorem dX7_sign_48 : decode cX7_sign 48 = .ok (.dup, 1) := by decide +kernel
theorem dX7_sign_49 : decode cX7_sign 49 = .ok (.getfield 68, 3) := by decide +kernel
theorem dX7_sign_52 : decode cX7_sign 52 = .ok (.iconst 1, 1) := by decide +kernel
theorem dX7_sign_53 : decode cX7_sign 53 = .ok (.iadd, 1) := by decide +kernel
theorem dX7_sign_54 : decode cX7_sign 54 = .ok (.putfield 68, 3) := by decide +kernel
theorem dX7_sign_57 : decode cX7_sign 57 = .ok (.aload_n 0, 1) := by decide +kernel
theorem dX7_sign_58 : decode cX7_sign 58 = .ok (.getfield 68, 3) := by decide +kernel
theorem dX7_sign_61 : decode cX7_sign 61 = .ok (.iconst 1, 1) := by decide +kernel
theorem dX7_sign_62 : decode cX7_sign 62 = .ok (.isub, 1) := by decide +kernel
theorem dX7_sign_63 : decode cX7_sign 63 = .ok (.ireturn, 1) := by decide +kernel
set_option maxRecDepth 20000 in
theorem ggX7_draft_X7_isAccount : GoodIn wsX7_draft wsX7_isAccount := goodIn_r _ [13, 14, 15, 16, 12, 17, 18, 19, 20, 21, 22, 23, 24, 25, 26, 27, 28, 29, 30, 31, 32, 33, 34, 35, 36, 37, 38] (by decide +kernel) (by decide +kernel)
set_option maxRecDepth 20000 in
theorem gX7_draft_X7_isAccount : GoodIn wsX7_draft (wsV RX7 60 RX7 yX7_isAccount wsX7_isAccount) := goodIn_app (goodIn_of _ (by decide +kernel)) ggX7_draft_X7_isAccount
set_option maxRecDepth 20000 in
theorem ggX7_draft_X7_in : GoodIn wsX7_draft wsX7_in := goodIn_r _ [17] (by decide +kernel) (by decide +kernel)
set_option maxRecDepth 20000 in
theorem gX7_draft_X7_in : GoodIn wsX7_draft (va_wsS RX7 48 yX7_in wsX7_in) := goodIn_app (goodIn_of _ (by decide +kernel)) ggX7_draft_X7_in
theorem dX7_draft_0 : decode cX7_draft 0 = .ok (.aload_n 0, 1) := by decide +kernel
theorem dX7_draft_1 : decode cX7_draft 1 = .ok (.iload_n 1, 1) := by decide +kernel
theorem dX7_draft_2 : decode cX7_draft 2 = .ok (.invokevirtual 60, 3) := by decide +kernel
theorem dX7_draft_5 : decode cX7_draft 5 = .ok (.ifCond .eq 42, 3) := by decide +kernel
theorem dX7_draft_8 : decode cX7_draft 8 = .ok (.iload_n 2, 1) := by decide +kernel
theorem dX7_draft_9 : decode cX7_draft 9 = .ok (.i2l, 1) := by decide +kernel
theorem dX7_draft_10 : decode cX7_draft 10 = .ok (.lconst 0, 1) := by decide +kernel
theorem dX7_draft_11 : decode cX7_draft 11 = .ok (.ldc2_w 71, 3) := by decide +kernel
theorem dX7_draft_14 : decode cX7_draft 14 = .ok (.invokestatic 48, 3) := by decide +kernel
theorem dX7_draft_17 : decode cX7_draft 17 = .ok (.ifCond .eq 30, 3) := by decide +kernel
theorem dX7_draft_20 : decode cX7_draft 20 = .ok (.iload_n 3, 1) := by decide +kernel
theorem dX7_draft_21 : decode cX7_draft 21 = .ok (.i2l, 1) := by decide +kernel
theorem dX7_draft_22 : decode cX7_draft 22 = .ok (.lconst 0, 1) := by decide +kernel
theorem dX7_draft_23 : decode cX7_draft 23 = .ok (.ldc2_w 73, 3) := by decide +kernel
theorem dX7_draft_26 : decode cX7_draft 26 = .ok (.invokestatic 48, 3) := by decide +kernel
theorem dX7_draft_29 : decode cX7_draft 29 = .ok (.ifCond .eq 18, 3) := by decide +kernel
theorem dX7_draft_32 : decode cX7_draft 32 = .ok (.iload 4, 2) := by decide +kernel
theorem dX7_draft_34 : decode cX7_draft 34 = .ok (.i2l, 1) := by decide +kernel
theorem dX7_draft_35 : decode cX7_draft 35 = .ok (.ldc2_w 75, 3) := by decide +kernel
theorem dX7_draft_38 : decode cX7_draft 38 = .ok (.ldc2_w 77, 3) := by decide +kernel
theorem dX7_draft_41 : decode cX7_draft 41 = .ok (.invokestatic 48, 3) := by decide +kernel
theorem dX7_draft_44 : decode cX7_draft 44 = .ok (.ifCond .ne 5, 3) := by decide +kernel
theorem dX7_draft_47 : decode cX7_draft 47 = .ok (.iconst (-1), 1) := by decide +kernel
theorem dX7_draft_48 : decode cX7_draft 48 = .ok (.ireturn, 1) := by decide +kernel
theorem dX7_draft_49 : decode cX7_draft 49 = .ok (.aload_n 0, 1) := by decide +kernel
theorem dX7_draft_50 : decode cX7_draft 50 = .ok (.getfield 29, 3) := by decide +kernel
theorem dX7_draft_53 : decode cX7_draft 53 = .ok (.iconst 0, 1) := by decide +kernel
theorem dX7_draft_54 : decode cX7_draft 54 = .ok (.iload_n 1, 1) := by decide +kernel
theorem dX7_draft_55 : decode cX7_draft 55 = .ok (.i2l, 1) := by decide +kernel
theorem dX7_draft_56 : decode cX7_draft 56 = .ok (.lastore, 1) := by decide +kernel
theorem dX7_draft_57 : decode cX7_draft 57 = .ok (.aload_n 0, 1) := by decide +kernel
theorem dX7_draft_58 : decode cX7_draft 58 = .ok (.getfield 29, 3) := by decide +kernel
theorem dX7_draft_61 : decode cX7_draft 61 = .ok (.iconst 1, 1) := by decide +kernel
theorem dX7_draft_62 : decode cX7_draft 62 = .ok (.iload_n 2, 1) := by decide +kernel
theorem dX7_draft_63 : decode cX7_draft 63 = .ok (.i2l, 1) := by decide +kernel
theorem dX7_draft_64 : decode cX7_draft 64 = .ok (.lastore, 1) := by decide +kernel
theorem dX7_draft_65 : decode cX7_draft 65 = .ok (.aload_n 0, 1) := by decide +kernel
theorem dX7_draft_66 : decode cX7_draft 66 = .ok (.getfield 29, 3) := by decide +kernel
theorem dX7_draft_69 : decode cX7_draft 69 = .ok (.iconst 2, 1) := by decide +kernel
theorem dX7_draft_70 : decode cX7_draft 70 = .ok (.iload_n 3, 1) := by decide +kernel
theorem dX7_draft_71 : decode cX7_draft 71 = .ok (.i2l, 1) := by decide +kernel
theorem dX7_draft_72 : decode cX7_draft 72 = .ok (.lastore, 1) := by decide +kernel
theorem dX7_draft_73 : decode cX7_draft 73 = .ok (.aload_n 0, 1) := by decide +kernel
theorem dX7_draft_74 : decode cX7_draft 74 = .ok (.getfield 29, 3) := by decide +kernel
theorem dX7_draft_77 : decode cX7_draft 77 = .ok (.iconst 3, 1) := by decide +kernel
theorem dX7_draft_78 : decode cX7_draft 78 = .ok (.iload 4, 2) := by decide +kernel
theorem dX7_draft_80 : decode cX7_draft 80 = .ok (.i2l, 1) := by decide +kernel
theorem dX7_draft_81 : decode cX7_draft 81 = .ok (.lastore, 1) := by decide +kernel
theorem dX7_draft_82 : decode cX7_draft 82 = .ok (.aload_n 0, 1) := by decide +kernel
theorem dX7_draft_83 : decode cX7_draft 83 = .ok (.getfield 29, 3) := by decide +kernel
theorem dX7_draft_86 : decode cX7_draft 86 = .ok (.iconst 4, 1) := by decide +kernel
theorem dX7_draft_87 : decode cX7_draft 87 = .ok (.ldc2_w 73, 3) := by decide +kernel
theorem dX7_draft_90 : decode cX7_draft 90 = .ok (.lastore, 1) := by decide +kernel
theorem dX7_draft_91 : decode cX7_draft 91 = .ok (.aload_n 0, 1) := by decide +kernel
theorem dX7_draft_92 : decode cX7_draft 92 = .ok (.getfield 29, 3) := by decide +kernel
theorem dX7_draft_95 : decode cX7_draft 95 = .ok (.iconst 5, 1) := by decide +kernel
theorem dX7_draft_96 : decode cX7_draft 96 = .ok (.lconst 0, 1) := by decide +kernel
theorem dX7_draft_97 : decode cX7_draft 97 = .ok (.lastore, 1) := by decide +kernel
theorem dX7_draft_98 : decode cX7_draft 98 = .ok (.aload_n 0, 1) := by decide +kernel
theorem dX7_draft_99 : decode cX7_draft 99 = .ok (.getfield 29, 3) := by decide +kernel
theorem dX7_draft_102 : decode cX7_draft 102 = .ok (.bipush 6, 2) := by decide +kernel
theorem dX7_draft_104 : decode cX7_draft 104 = .ok (.ldc2_w 64, 3) := by decide +kernel
theorem dX7_draft_107 : decode cX7_draft 107 = .ok (.lastore, 1) := by decide +kernel
theorem dX7_draft_108 : decode cX7_draft 108 = .ok (.aload_n 0, 1) := by decide +kernel
theorem dX7_draft_109 : decode cX7_draft 109 = .ok (.getfield 29, 3) := by decide +kernel
theorem dX7_draft_112 : decode cX7_draft 112 = .ok (.bipush 8, 2) := by decide +kernel
theorem dX7_draft_114 : decode cX7_draft 114 = .ok (.lconst 0, 1) := by decide +kernel
theorem dX7_draft_115 : decode cX7_draft 115 = .ok (.lastore, 1) := by decide +kernel
theorem dX7_draft_116 : decode cX7_draft 116 = .ok (.aload_n 0, 1) := by decide +kernel
theorem dX7_draft_117 : decode cX7_draft 117 = .ok (.iconst 0, 1) := by decide +kernel
theorem dX7_draft_118 : decode cX7_draft 118 = .ok (.putfield 79, 3) := by decide +kernel
theorem dX7_draft_121 : decode cX7_draft 121 = .ok (.aload_n 0, 1) := by decide +kernel
theorem dX7_draft_122 : decode cX7_draft 122 = .ok (.iconst 1, 1) := by decide +kernel
theorem dX7_draft_123 : decode cX7_draft 123 = .ok (.putfield 82, 3) := by decide +kernel
theorem dX7_draft_126 : decode cX7_draft 126 = .ok (.iconst 1, 1) := by decide +kernel
theorem dX7_draft_127 : decode cX7_draft 127 = .ok (.ireturn, 1) := by decide +kernel
theorem dX7_told_0 : decode cX7_told 0 = .ok (.iload 4, 2) := by decide +kernel
theorem dX7_told_2 : decode cX7_told 2 = .ok (.ifCond .ne 5, 3) := by decide +kernel
theorem dX7_told_5 : decode cX7_told 5 = .ok (.iconst (-1), 1) := by decide +kernel
theorem dX7_told_6 : decode cX7_told 6 = .ok (.ireturn, 1) := by decide +kernel
theorem dX7_told_7 : decode cX7_told 7 = .ok (.aload_n 0, 1) := by decide +kernel
theorem dX7_told_8 : decode cX7_told 8 = .ok (.getfield 82, 3) := by decide +kernel
theorem dX7_told_11 : decode cX7_told 11 = .ok (.ifCond .ne 6, 3) := by decide +kernel
theorem dX7_told_14 : decode cX7_told 14 = .ok (.bipush (-2), 2) := by decide +kernel
theorem dX7_told_16 : decode cX7_told 16 = .ok (.ireturn, 1) := by decide +kernel
theorem dX7_told_17 : decode cX7_told 17 = .ok (.aload_n 0, 1) := by decide +kernel
theorem dX7_told_18 : decode cX7_told 18 = .ok (.getfield 29, 3) := by decide +kernel
theorem dX7_told_21 : decode cX7_told 21 = .ok (.iload_n 1, 1) := by decide +kernel
theorem dX7_told_22 : decode cX7_told 22 = .ok (.lload_n 2, 1) := by decide +kernel
theorem dX7_told_23 : decode cX7_told 23 = .ok (.lastore, 1) := by decide +kernel
theorem dX7_told_24 : decode cX7_told 24 = .ok (.iconst 1, 1) := by decide +kernel
theorem dX7_told_25 : decode cX7_told 25 = .ok (.ireturn, 1) := by decide +kernel
set_option maxRecDepth 20000 in
theorem ggX7_until_X7_in : GoodIn wsX7_until wsX7_in := goodIn_r _ [5] (by decide +kernel) (by decide +kernel)
set_option maxRecDepth 20000 in
theorem gX7_until_X7_in : GoodIn wsX7_until (va_wsS RX7 48 yX7_in wsX7_in) := goodIn_app (goodIn_of _ (by decide +kernel)) ggX7_until_X7_in
set_option maxRecDepth 20000 in
theorem ggX7_until_X7_told : GoodIn wsX7_until wsX7_told := goodIn_r _ [9, 10, 11, 12, 13, 14, 15, 16, 17, 18, 19, 20, 21, 22, 23, 24, 25, 26, 27, 28, 29, 30, 31, 32] (by decide +kernel) (by decide +kernel)
set_option maxRecDepth 20000 in
theorem gX7_until_X7_told : GoodIn wsX7_until (wsV RX7 86 RX7 yX7_told wsX7_told) := goodIn_app (goodIn_of _ (by decide +kernel)) ggX7_until_X7_told
theorem dX7_until_0 : decode cX7_until 0 = .ok (.aload_n 0, 1) := by decide +kernel
theorem dX7_until_1 : decode cX7_until 1 = .ok (.iconst 4, 1) := by decide +kernel
theorem dX7_until_2 : decode cX7_until 2 = .ok (.iload_n 1, 1) := by decide +kernel
theorem dX7_until_3 : decode cX7_until 3 = .ok (.i2l, 1) := by decide +kernel
theorem dX7_until_4 : decode cX7_until 4 = .ok (.iload_n 1, 1) := by decide +kernel
theorem dX7_until_5 : decode cX7_until 5 = .ok (.i2l, 1) := by decide +kernel
theorem dX7_until_6 : decode cX7_until 6 = .ok (.lconst 0, 1) := by decide +kernel
theorem dX7_until_7 : decode cX7_until 7 = .ok (.ldc2_w 73, 3) := by decide +kernel
theorem dX7_until_10 : decode cX7_until 10 = .ok (.invokestatic 48, 3) := by decide +kernel
theorem dX7_until_13 : decode cX7_until 13 = .ok (.invokevirtual 86, 3) := by decide +kernel
theorem dX7_until_16 : decode cX7_until 16 = .ok (.ireturn, 1) := by decide +kernel
set_option maxRecDepth 20000 in
theorem ggX7_from_X7_in : GoodIn wsX7_from wsX7_in := goodIn_r _ [5] (by decide +kernel) (by decide +kernel)
set_option maxRecDepth 20000 in
theorem gX7_from_X7_in : GoodIn wsX7_from (va_wsS RX7 48 yX7_in wsX7_in) := goodIn_app (goodIn_of _ (by decide +kernel)) ggX7_from_X7_in
set_option maxRecDepth 20000 in
theorem ggX7_from_X7_told : GoodIn wsX7_from wsX7_told := goodIn_r _ [9, 10, 11, 12, 13, 14, 15, 16, 17, 18, 19, 20, 21, 22, 23, 24, 25, 26, 27, 28, 29, 30, 31, 32] (by decide +kernel) (by decide +kernel)
set_option maxRecDepth 20000 in
theorem gX7_from_X7_told : GoodIn wsX7_from (wsV RX7 86 RX7 yX7_told wsX7_told) := goodIn_app (goodIn_of _ (by decide +kernel)) ggX7_from_X7_told
theorem dX7_from_0 : decode cX7_from 0 = .ok (.aload_n 0, 1) := by decide +kernel
theorem dX7_from_1 : decode cX7_from 1 = .ok (.iconst 5, 1) := by decide +kernel
theorem dX7_from_2 : decode cX7_from 2 = .ok (.iload_n 1, 1) := by decide +kernel
theorem dX7_from_3 : decode cX7_from 3 = .ok (.i2l, 1) := by decide +kernel
theorem dX7_from_4 : decode cX7_from 4 = .ok (.iload_n 1, 1) := by decide +kernel
theorem dX7_from_5 : decode cX7_from 5 = .ok (.i2l, 1) := by decide +kernel
theorem dX7_from_6 : decode cX7_from 6 = .ok (.lconst 0, 1) := by decide +kernel
theorem dX7_from_7 : decode cX7_from 7 = .ok (.ldc2_w 73, 3) := by decide +kernel
theorem dX7_from_10 : decode cX7_from 10 = .ok (.invokestatic 48, 3) := by decide +kernel
theorem dX7_from_13 : decode cX7_from 13 = .ok (.invokevirtual 86, 3) := by decide +kernel
theorem dX7_from_16 : decode cX7_from 16 = .ok (.ireturn, 1) := by decide +kernel
set_option maxRecDepth 20000 in
theorem ggX7_sponsor_X7_isAccount : GoodIn wsX7_sponsor wsX7_isAccount := goodIn_r _ [5, 6, 7, 8, 4, 9, 16, 17, 18, 19, 20, 21, 22, 23, 24, 25, 26, 27, 28, 29, 30, 31, 32, 33, 34, 35, 36] (by decide +kernel) (by decide +kernel)
set_option maxRecDepth 20000 in
theorem gX7_sponsor_X7_isAccount : GoodIn wsX7_sponsor (wsV RX7 60 RX7 yX7_isAccount wsX7_isAccount) := goodIn_app (goodIn_of _ (by decide +kernel)) ggX7_sponsor_X7_isAccount
set_option maxRecDepth 20000 in
theorem ggX7_sponsor_X7_told : GoodIn wsX7_sponsor wsX7_told := goodIn_r _ [13, 14, 15, 16, 17, 18, 19, 20, 21, 22, 23, 24, 25, 26, 27, 28, 29, 30, 31, 32, 33, 34, 35, 36] (by decide +kernel) (by decide +kernel)
set_option maxRecDepth 20000 in
theorem gX7_sponsor_X7_told : GoodIn wsX7_sponsor (wsV RX7 86 RX7 yX7_told wsX7_told) := goodIn_app (goodIn_of _ (by decide +kernel)) ggX7_sponsor_X7_told
theorem dX7_sponsor_0 : decode cX7_sponsor 0 = .ok (.aload_n 0, 1) := by decide +kernel
theorem dX7_sponsor_1 : decode cX7_sponsor 1 = .ok (.bipush 6, 2) := by decide +kernel
theorem dX7_sponsor_3 : decode cX7_sponsor 3 = .ok (.iload_n 1, 1) := by decide +kernel
theorem dX7_sponsor_4 : decode cX7_sponsor 4 = .ok (.i2l, 1) := by decide +kernel
theorem dX7_sponsor_5 : decode cX7_sponsor 5 = .ok (.iload_n 1, 1) := by decide +kernel
theorem dX7_sponsor_6 : decode cX7_sponsor 6 = .ok (.iconst (-1), 1) := by decide +kernel
theorem dX7_sponsor_7 : decode cX7_sponsor 7 = .ok (.if_icmp .eq 11, 3) := by decide +kernel
theorem dX7_sponsor_10 : decode cX7_sponsor 10 = .ok (.aload_n 0, 1) := by decide +kernel
theorem dX7_sponsor_11 : decode cX7_sponsor 11 = .ok (.iload_n 1, 1) := by decide +kernel
theorem dX7_sponsor_12 : decode cX7_sponsor 12 = .ok (.invokevirtual 60, 3) := by decide +kernel
theorem dX7_sponsor_15 : decode cX7_sponsor 15 = .ok (.ifCond .eq 7, 3) := by decide +kernel
theorem dX7_sponsor_18 : decode cX7_sponsor 18 = .ok (.iconst 1, 1) := by decide +kernel
theorem dX7_sponsor_19 : decode cX7_sponsor 19 = .ok (.goto 4, 3) := by decide +kernel
theorem dX7_sponsor_22 : decode cX7_sponsor 22 = .ok (.iconst 0, 1) := by decide +kernel
theorem dX7_sponsor_23 : decode cX7_sponsor 23 = .ok (.invokevirtual 86, 3) := by decide +kernel
theorem dX7_sponsor_26 : decode cX7_sponsor 26 = .ok (.ireturn, 1) := by decide +kernel
set_option maxRecDepth 20000 in
theorem ggX7_act_X7_isAccount : GoodIn wsX7_act wsX7_isAccount := goodIn_r _ [8, 9, 10, 11, 7, 12, 13, 14, 15, 16, 17, 18, 19, 20, 21, 22, 23, 24, 25, 26, 27, 28, 29, 30, 31, 32, 33] (by decide +kernel) (by decide +kernel)
set_option maxRecDepth 20000 in
theorem gX7_act_X7_isAccount : GoodIn wsX7_act (wsV RX7 60 RX7 yX7_isAccount wsX7_isAccount) := goodIn_app (goodIn_of _ (by decide +kernel)) ggX7_act_X7_isAccount
set_option maxRecDepth 20000 in
theorem ggX7_act_X7_in : GoodIn wsX7_act wsX7_in := goodIn_r _ [12] (by decide +kernel) (by decide +kernel)
set_option maxRecDepth 20000 in
theorem gX7_act_X7_in : GoodIn wsX7_act (va_wsS RX7 48 yX7_in wsX7_in) := goodIn_app (goodIn_of _ (by decide +kernel)) ggX7_act_X7_in
theorem dX7_act_0 : decode cX7_act 0 = .ok (.aload_n 0, 1) := by decide +kernel
theorem dX7_act_1 : decode cX7_act 1 = .ok (.iload_n 1, 1) := by decide +kernel
theorem dX7_act_2 : decode cX7_act 2 = .ok (.invokevirtual 60, 3) := by decide +kernel
theorem dX7_act_5 : decode cX7_act 5 = .ok (.ifCond .eq 14, 3) := by decide +kernel
theorem dX7_act_8 : decode cX7_act 8 = .ok (.lload_n 2, 1) := by decide +kernel
theorem dX7_act_9 : decode cX7_act 9 = .ok (.lconst 0, 1) := by decide +kernel
theorem dX7_act_10 : decode cX7_act 10 = .ok (.ldc2_w 54, 3) := by decide +kernel
theorem dX7_act_13 : decode cX7_act 13 = .ok (.invokestatic 48, 3) := by decide +kernel
theorem dX7_act_16 : decode cX7_act 16 = .ok (.ifCond .ne 5, 3) := by decide +kernel
theorem dX7_act_19 : decode cX7_act 19 = .ok (.iconst (-1), 1) := by decide +kernel
theorem dX7_act_20 : decode cX7_act 20 = .ok (.ireturn, 1) := by decide +kernel
theorem dX7_act_21 : decode cX7_act 21 = .ok (.aload_n 0, 1) := by decide +kernel
theorem dX7_act_22 : decode cX7_act 22 = .ok (.getfield 82, 3) := by decide +kernel
theorem dX7_act_25 : decode cX7_act 25 = .ok (.ifCond .ne 6, 3) := by decide +kernel
theorem dX7_act_28 : decode cX7_act 28 = .ok (.bipush (-2), 2) := by decide +kernel
theorem dX7_act_30 : decode cX7_act 30 = .ok (.ireturn, 1) := by decide +kernel
theorem dX7_act_31 : decode cX7_act 31 = .ok (.aload_n 0, 1) := by decide +kernel
theorem dX7_act_32 : decode cX7_act 32 = .ok (.getfield 29, 3) := by decide +kernel
theorem dX7_act_35 : decode cX7_act 35 = .ok (.bipush 8, 2) := by decide +kernel
theorem dX7_act_37 : decode cX7_act 37 = .ok (.laload, 1) := by decide +kernel
theorem dX7_act_38 : decode cX7_act 38 = .ok (.l2i, 1) := by decide +kernel
theorem dX7_act_39 : decode cX7_act 39 = .ok (.istore 4, 2) := by decide +kernel
theorem dX7_act_41 : decode cX7_act 41 = .ok (.iload 4, 2) := by decide +kernel
theorem dX7_act_43 : decode cX7_act 43 = .ok (.iconst 4, 1) := by decide +kernel
theorem dX7_act_44 : decode cX7_act 44 = .ok (.if_icmp .ne 6, 3) := by decide +kernel
theorem dX7_act_47 : decode cX7_act 47 = .ok (.bipush (-3), 2) := by decide +kernel
theorem dX7_act_49 : decode cX7_act 49 = .ok (.ireturn, 1) := by decide +kernel
theorem dX7_act_50 : decode cX7_act 50 = .ok (.aload_n 0, 1) := by decide +kernel
theorem dX7_act_51 : decode cX7_act 51 = .ok (.getfield 29, 3) := by decide +kernel
theorem dX7_act_54 : decode cX7_act 54 = .ok (.bipush 9, 2) := by decide +kernel
theorem dX7_act_56 : decode cX7_act 56 = .ok (.iconst 2, 1) := by decide +kernel
theorem dX7_act_57 : decode cX7_act 57 = .ok (.iload 4, 2) := by decide +kernel
theorem dX7_act_59 : decode cX7_act 59 = .ok (.imul, 1) := by decide +kernel
theorem dX7_act_60 : decode cX7_act 60 = .ok (.iadd, 1) := by decide +kernel
theorem dX7_act_61 : decode cX7_act 61 = .ok (.iload_n 1, 1) := by decide +kernel
theorem dX7_act_62 : decode cX7_act 62 = .ok (.i2l, 1) := by decide +kernel
theorem dX7_act_63 : decode cX7_act 63 = .ok (.lastore, 1) := by decide +kernel
theorem dX7_act_64 : decode cX7_act 64 = .ok (.aload_n 0, 1) := by decide +kernel
theorem dX7_act_65 : decode cX7_act 65 = .ok (.getfield 29, 3) := by decide +kernel
theorem dX7_act_68 : decode cX7_act 68 = .ok (.bipush 10, 2) := by decide +kernel
theorem dX7_act_70 : decode cX7_act 70 = .ok (.iconst 2, 1) := by decide +kernel
theorem dX7_act_71 : decode cX7_act 71 = .ok (.iload 4, 2) := by decide +kernel
theorem dX7_act_73 : decode cX7_act 73 = .ok (.imul, 1) := by decide +kernel
theorem dX7_act_74 : decode cX7_act 74 = .ok (.iadd, 1) := by decide +kernel
theorem dX7_act_75 : decode cX7_act 75 = .ok (.lload_n 2, 1) := by decide +kernel
theorem dX7_act_76 : decode cX7_act 76 = .ok (.lastore, 1) := by decide +kernel
theorem dX7_act_77 : decode cX7_act 77 = .ok (.aload_n 0, 1) := by decide +kernel
theorem dX7_act_78 : decode cX7_act 78 = .ok (.getfield 29, 3) := by decide +kernel
theorem dX7_act_81 : decode cX7_act 81 = .ok (.bipush 8, 2) := by decide +kernel
theorem dX7_act_83 : decode cX7_act 83 = .ok (.iload 4, 2) := by decide +kernel
theorem dX7_act_85 : decode cX7_act 85 = .ok (.iconst 1, 1) := by decide +kernel
theorem dX7_act_86 : decode cX7_act 86 = .ok (.iadd, 1) := by decide +kernel
theorem dX7_act_87 : decode cX7_act 87 = .ok (.i2l, 1) := by decide +kernel
theorem dX7_act_88 : decode cX7_act 88 = .ok (.lastore, 1) := by decide +kernel
theorem dX7_act_89 : decode cX7_act 89 = .ok (.iload 4, 2) := by decide +kernel
theorem dX7_act_91 : decode cX7_act 91 = .ok (.iconst 1, 1) := by decide +kernel
theorem dX7_act_92 : decode cX7_act 92 = .ok (.iadd, 1) := by decide +kernel
theorem dX7_act_93 : decode cX7_act 93 = .ok (.ireturn, 1) := by decide +kernel
set_option maxRecDepth 20000 in
theorem ggX7_add_X7_in : GoodIn wsX7_add wsX7_in := goodIn_r _ [8] (by decide +kernel) (by decide +kernel)
set_option maxRecDepth 20000 in
theorem gX7_add_X7_in : GoodIn wsX7_add (va_wsS RX7 48 yX7_in wsX7_in) := goodIn_app (goodIn_of _ (by decide +kernel)) ggX7_add_X7_in
theorem dX7_add_0 : decode cX7_add 0 = .ok (.iload_n 1, 1) := by decide +kernel
theorem dX7_add_1 : decode cX7_add 1 = .ok (.i2l, 1) := by decide +kernel
theorem dX7_add_2 : decode cX7_add 2 = .ok (.lconst 0, 1) := by decide +kernel
theorem dX7_add_3 : decode cX7_add 3 = .ok (.aload_n 0, 1) := by decide +kernel
theorem dX7_add_4 : decode cX7_add 4 = .ok (.getfield 68, 3) := by decide +kernel
theorem dX7_add_7 : decode cX7_add 7 = .ok (.iconst 1, 1) := by decide +kernel
theorem dX7_add_8 : decode cX7_add 8 = .ok (.isub, 1) := by decide +kernel
theorem dX7_add_9 : decode cX7_add 9 = .ok (.i2l, 1) := by decide +kernel
theorem dX7_add_10 : decode cX7_add 10 = .ok (.invokestatic 48, 3) := by decide +kernel
theorem dX7_add_13 : decode cX7_add 13 = .ok (.ifCond .ne 5, 3) := by decide +kernel
theorem dX7_add_16 : decode cX7_add 16 = .ok (.iconst (-1), 1) := by decide +kernel
theorem dX7_add_17 : decode cX7_add 17 = .ok (.ireturn, 1) := by decide +kernel
theorem dX7_add_18 : decode cX7_add 18 = .ok (.aload_n 0, 1) := by decide +kernel
theorem dX7_add_19 : decode cX7_add 19 = .ok (.getfield 82, 3) := by decide +kernel
theorem dX7_add_22 : decode cX7_add 22 = .ok (.ifCond .ne 6, 3) := by decide +kernel
theorem dX7_add_25 : decode cX7_add 25 = .ok (.bipush (-2), 2) := by decide +kernel
theorem dX7_add_27 : decode cX7_add 27 = .ok (.ireturn, 1) := by decide +kernel
theorem dX7_add_28 : decode cX7_add 28 = .ok (.aload_n 0, 1) := by decide +kernel
theorem dX7_add_29 : decode cX7_add 29 = .ok (.getfield 79, 3) := by decide +kernel
theorem dX7_add_32 : decode cX7_add 32 = .ok (.bipush 12, 2) := by decide +kernel
theorem dX7_add_34 : decode cX7_add 34 = .ok (.if_icmp .ne 6, 3) := by decide +kernel
theorem dX7_add_37 : decode cX7_add 37 = .ok (.bipush (-3), 2) := by decide +kernel
theorem dX7_add_39 : decode cX7_add 39 = .ok (.ireturn, 1) := by decide +kernel
theorem dX7_add_40 : decode cX7_add 40 = .ok (.aload_n 0, 1) := by decide +kernel
theorem dX7_add_41 : decode cX7_add 41 = .ok (.getfield 32, 3) := by decide +kernel
theorem dX7_add_44 : decode cX7_add 44 = .ok (.aload_n 0, 1) := by decide +kernel
theorem dX7_add_45 : decode cX7_add 45 = .ok (.getfield 79, 3) := by decide +kernel
theorem dX7_add_48 : decode cX7_add 48 = .ok (.iload_n 1, 1) := by decide +kernel
theorem dX7_add_49 : decode cX7_add 49 = .ok (.iastore, 1) := by decide +kernel
theorem dX7_add_50 : decode cX7_add 50 = .ok (.aload_n 0, 1) := by decide +kernel
theorem dX7_add_51 : decode cX7_add 51 = .ok (.dup, 1) := by decide +kernel
theorem dX7_add_52 : decode cX7_add 52 = .ok (.getfield 79, 3) := by decide +kernel
theorem dX7_add_55 : decode cX7_add 55 = .ok (.iconst 1, 1) := by decide +kernel
theorem dX7_add_56 : decode cX7_add 56 = .ok (.iadd, 1) := by decide +kernel
theorem dX7_add_57 : decode cX7_add 57 = .ok (.putfield 79, 3) := by decide +kernel
theorem dX7_add_60 : decode cX7_add 60 = .ok (.aload_n 0, 1) := by decide +kernel
theorem dX7_add_61 : decode cX7_add 61 = .ok (.getfield 79, 3) := by decide +kernel
theorem dX7_add_64 : decode cX7_add 64 = .ok (.ireturn, 1) := by decide +kernel
theorem dX7_digest_0 : decode cX7_digest 0 = .ok (.aload_n 0, 1) := by decide +kernel
theorem dX7_digest_1 : decode cX7_digest 1 = .ok (.getfield 82, 3) := by decide +kernel
theorem dX7_digest_4 : decode cX7_digest 4 = .ok (.ifCond .ne 5, 3) := by decide +kernel
theorem dX7_digest_7 : decode cX7_digest 7 = .ok (.lconst 0, 1) := by decide +kernel
theorem dX7_digest_8 : decode cX7_digest 8 = .ok (.lreturn, 1) := by decide +kernel
theorem dX7_digest_9 : decode cX7_digest 9 = .ok (.ldc2_w 90, 3) := by decide +kernel
theorem dX7_digest_12 : decode cX7_digest 12 = .ok (.lstore_n 1, 1) := by decide +kernel
theorem dX7_digest_13 : decode cX7_digest 13 = .ok (.iconst 0, 1) := by decide +kernel
theorem dX7_digest_14 : decode cX7_digest 14 = .ok (.istore_n 3, 1) := by decide +kernel
theorem dX7_digest_15 : decode cX7_digest 15 = .ok (.iload_n 3, 1) := by decide +kernel
theorem dX7_digest_16 : decode cX7_digest 16 = .ok (.bipush 7, 2) := by decide +kernel
theorem dX7_digest_18 : decode cX7_digest 18 = .ok (.if_icmp .ge 22, 3) := by decide +kernel
theorem dX7_digest_21 : decode cX7_digest 21 = .ok (.ldc2_w 92, 3) := by decide +kernel
theorem dX7_digest_24 : decode cX7_digest 24 = .ok (.lload_n 1, 1) := by decide +kernel
theorem dX7_digest_25 : decode cX7_digest 25 = .ok (.lmul, 1) := by decide +kernel
theorem dX7_digest_26 : decode cX7_digest 26 = .ok (.aload_n 0, 1) := by decide +kernel
theorem dX7_digest_27 : decode cX7_digest 27 = .ok (.getfield 29, 3) := by decide +kernel
theorem dX7_digest_30 : decode cX7_digest 30 = .ok (.iload_n 3, 1) := by decide +kernel
theorem dX7_digest_31 : decode cX7_digest 31 = .ok (.laload, 1) := by decide +kernel
theorem dX7_digest_32 : decode cX7_digest 32 = .ok (.ladd, 1) := by decide +kernel
theorem dX7_digest_33 : decode cX7_digest 33 = .ok (.lstore_n 1, 1) := by decide +kernel
theorem dX7_digest_34 : decode cX7_digest 34 = .ok (.iinc 3 1, 3) := by decide +kernel
theorem dX7_digest_37 : decode cX7_digest 37 = .ok (.goto (-22), 3) := by decide +kernel
theorem dX7_digest_40 : decode cX7_digest 40 = .ok (.iconst 0, 1) := by decide +kernel
theorem dX7_digest_41 : decode cX7_digest 41 = .ok (.istore_n 3, 1) := by decide +kernel
theorem dX7_digest_42 : decode cX7_digest 42 = .ok (.iload_n 3, 1) := by decide +kernel
theorem dX7_digest_43 : decode cX7_digest 43 = .ok (.i2l, 1) := by decide +kernel
theorem dX7_digest_44 : decode cX7_digest 44 = .ok (.ldc2_w 94, 3) := by decide +kernel
theorem dX7_digest_47 : decode cX7_digest 47 = .ok (.aload_n 0, 1) := by decide +kernel
theorem dX7_digest_48 : decode cX7_digest 48 = .ok (.getfield 29, 3) := by decide +kernel
theorem dX7_digest_51 : decode cX7_digest 51 = .ok (.bipush 8, 2) := by decide +kernel
theorem dX7_digest_53 : decode cX7_digest 53 = .ok (.laload, 1) := by decide +kernel
theorem dX7_digest_54 : decode cX7_digest 54 = .ok (.lmul, 1) := by decide +kernel
theorem dX7_digest_55 : decode cX7_digest 55 = .ok (.lcmp, 1) := by decide +kernel
theorem dX7_digest_56 : decode cX7_digest 56 = .ok (.ifCond .ge 25, 3) := by decide +kernel
theorem dX7_digest_59 : decode cX7_digest 59 = .ok (.ldc2_w 92, 3) := by decide +kernel
theorem dX7_digest_62 : decode cX7_digest 62 = .ok (.lload_n 1, 1) := by decide +kernel
theorem dX7_digest_63 : decode cX7_digest 63 = .ok (.lmul, 1) := by decide +kernel
theorem dX7_digest_64 : decode cX7_digest 64 = .ok (.aload_n 0, 1) := by decide +kernel
theorem dX7_digest_65 : decode cX7_digest 65 = .ok (.getfield 29, 3) := by decide +kernel
theorem dX7_digest_68 : decode cX7_digest 68 = .ok (.bipush 9, 2) := by decide +kernel
theorem dX7_digest_70 : decode cX7_digest 70 = .ok (.iload_n 3, 1) := by decide +kernel
theorem dX7_digest_71 : decode cX7_digest 71 = .ok (.iadd, 1) := by decide +kernel
theorem dX7_digest_72 : decode cX7_digest 72 = .ok (.laload, 1) := by decide +kernel
theorem dX7_digest_73 : decode cX7_digest 73 = .ok (.ladd, 1) := by decide +kernel
theorem dX7_digest_74 : decode cX7_digest 74 = .ok (.lstore_n 1, 1) := by decide +kernel
theorem dX7_digest_75 : decode cX7_digest 75 = .ok (.iinc 3 1, 3) := by decide +kernel
theorem dX7_digest_78 : decode cX7_digest 78 = .ok (.goto (-36), 3) := by decide +kernel
theorem dX7_digest_81 : decode cX7_digest 81 = .ok (.lload_n 1, 1) := by decide +kernel
theorem dX7_digest_82 : decode cX7_digest 82 = .ok (.lreturn, 1) := by decide +kernel
set_option maxRecDepth 20000 in
theorem ggX7_meets_X7_digest : GoodIn wsX7_meets wsX7_digest := goodIn_r _ [11, 12, 13, 14, 15, 16, 17, 18, 19, 20, 21, 22, 23, 24, 25, 26, 27, 28, 29, 30, 31, 32, 33, 34, 35, 36, 37] (by decide +kernel) (by decide +kernel)
set_option maxRecDepth 20000 in
theorem gX7_meets_X7_digest : GoodIn wsX7_meets (wsV RX7 96 RX7 yX7_digest wsX7_digest) := goodIn_app (goodIn_of _ (by decide +kernel)) ggX7_meets_X7_digest
theorem dX7_meets_0 : decode cX7_meets 0 = .ok (.aload_n 0, 1) := by decide +kernel
theorem dX7_meets_1 : decode cX7_meets 1 = .ok (.invokevirtual 96, 3) := by decide +kernel
theorem dX7_meets_4 : decode cX7_meets 4 = .ok (.lstore_n 2, 1) := by decide +kernel
theorem dX7_meets_5 : decode cX7_meets 5 = .ok (.iconst 0, 1) := by decide +kernel
theorem dX7_meets_6 : decode cX7_meets 6 = .ok (.istore 4, 2) := by decide +kernel
theorem dX7_meets_8 : decode cX7_meets 8 = .ok (.iconst 0, 1) := by decide +kernel
theorem dX7_meets_9 : decode cX7_meets 9 = .ok (.istore 5, 2) := by decide +kernel
theorem dX7_meets_11 : decode cX7_meets 11 = .ok (.iload 5, 2) := by decide +kernel
theorem dX7_meets_13 : decode cX7_meets 13 = .ok (.aload_n 0, 1) := by decide +kernel
theorem dX7_meets_14 : decode cX7_meets 14 = .ok (.getfield 79, 3) := by decide +kernel
theorem dX7_meets_17 : decode cX7_meets 17 = .ok (.if_icmp .ge 49, 3) := by decide +kernel
theorem dX7_meets_20 : decode cX7_meets 20 = .ok (.iload 4, 2) := by decide +kernel
theorem dX7_meets_22 : decode cX7_meets 22 = .ok (.aload_n 0, 1) := by decide +kernel
theorem dX7_meets_23 : decode cX7_meets 23 = .ok (.getfield 26, 3) := by decide +kernel
theorem dX7_meets_26 : decode cX7_meets 26 = .ok (.aload_n 0, 1) := by decide +kernel
theorem dX7_meets_27 : decode cX7_meets 27 = .ok (.getfield 32, 3) := by decide +kernel
theorem dX7_meets_30 : decode cX7_meets 30 = .ok (.iload 5, 2) := by decide +kernel
theorem dX7_meets_32 : decode cX7_meets 32 = .ok (.iaload, 1) := by decide +kernel
theorem dX7_meets_33 : decode cX7_meets 33 = .ok (.laload, 1) := by decide +kernel
theorem dX7_meets_34 : decode cX7_meets 34 = .ok (.lload_n 2, 1) := by decide +kernel
theorem dX7_meets_35 : decode cX7_meets 35 = .ok (.lcmp, 1) := by decide +kernel
theorem dX7_meets_36 : decode cX7_meets 36 = .ok (.ifCond .ne 20, 3) := by decide +kernel
theorem dX7_meets_39 : decode cX7_meets 39 = .ok (.iconst 1, 1) := by decide +kernel
theorem dX7_meets_40 : decode cX7_meets 40 = .ok (.aload_n 0, 1) := by decide +kernel
theorem dX7_meets_41 : decode cX7_meets 41 = .ok (.getfield 23, 3) := by decide +kernel
theorem dX7_meets_44 : decode cX7_meets 44 = .ok (.aload_n 0, 1) := by decide +kernel
theorem dX7_meets_45 : decode cX7_meets 45 = .ok (.getfield 32, 3) := by decide +kernel
theorem dX7_meets_48 : decode cX7_meets 48 = .ok (.iload 5, 2) := by decide +kernel
theorem dX7_meets_50 : decode cX7_meets 50 = .ok (.iaload, 1) := by decide +kernel
theorem dX7_meets_51 : decode cX7_meets 51 = .ok (.iaload, 1) := by decide +kernel
theorem dX7_meets_52 : decode cX7_meets 52 = .ok (.ishl, 1) := by decide +kernel
theorem dX7_meets_53 : decode cX7_meets 53 = .ok (.goto 4, 3) := by decide +kernel
theorem dX7_meets_56 : decode cX7_meets 56 = .ok (.iconst 0, 1) := by decide +kernel
theorem dX7_meets_57 : decode cX7_meets 57 = .ok (.ior, 1) := by decide +kernel
theorem dX7_meets_58 : decode cX7_meets 58 = .ok (.istore 4, 2) := by decide +kernel
theorem dX7_meets_60 : decode cX7_meets 60 = .ok (.iinc 5 1, 3) := by decide +kernel
theorem dX7_meets_63 : decode cX7_meets 63 = .ok (.goto (-52), 3) := by decide +kernel
theorem dX7_meets_66 : decode cX7_meets 66 = .ok (.iconst 0, 1) := by decide +kernel
theorem dX7_meets_67 : decode cX7_meets 67 = .ok (.istore 5, 2) := by decide +kernel
theorem dX7_meets_69 : decode cX7_meets 69 = .ok (.iconst 0, 1) := by decide +kernel
theorem dX7_meets_70 : decode cX7_meets 70 = .ok (.istore 6, 2) := by decide +kernel
theorem dX7_meets_72 : decode cX7_meets 72 = .ok (.iload 6, 2) := by decide +kernel
theorem dX7_meets_74 : decode cX7_meets 74 = .ok (.bipush 16, 2) := by decide +kernel
theorem dX7_meets_76 : decode cX7_meets 76 = .ok (.if_icmp .ge 31, 3) := by decide +kernel
theorem dX7_meets_79 : decode cX7_meets 79 = .ok (.iload 5, 2) := by decide +kernel
theorem dX7_meets_81 : decode cX7_meets 81 = .ok (.iload 4, 2) := by decide +kernel
theorem dX7_meets_83 : decode cX7_meets 83 = .ok (.iload 6, 2) := by decide +kernel
theorem dX7_meets_85 : decode cX7_meets 85 = .ok (.ishr, 1) := by decide +kernel
theorem dX7_meets_86 : decode cX7_meets 86 = .ok (.aload_n 0, 1) := by decide +kernel
theorem dX7_meets_87 : decode cX7_meets 87 = .ok (.getfield 17, 3) := by decide +kernel
theorem dX7_meets_90 : decode cX7_meets 90 = .ok (.iload_n 1, 1) := by decide +kernel
theorem dX7_meets_91 : decode cX7_meets 91 = .ok (.iaload, 1) := by decide +kernel
theorem dX7_meets_92 : decode cX7_meets 92 = .ok (.iload 6, 2) := by decide +kernel
theorem dX7_meets_94 : decode cX7_meets 94 = .ok (.ishr, 1) := by decide +kernel
theorem dX7_meets_95 : decode cX7_meets 95 = .ok (.iand, 1) := by decide +kernel
theorem dX7_meets_96 : decode cX7_meets 96 = .ok (.iconst 1, 1) := by decide +kernel
theorem dX7_meets_97 : decode cX7_meets 97 = .ok (.iand, 1) := by decide +kernel
theorem dX7_meets_98 : decode cX7_meets 98 = .ok (.iadd, 1) := by decide +kernel
theorem dX7_meets_99 : decode cX7_meets 99 = .ok (.istore 5, 2) := by decide +kernel
theorem dX7_meets_101 : decode cX7_meets 101 = .ok (.iinc 6 1, 3) := by decide +kernel
theorem dX7_meets_104 : decode cX7_meets 104 = .ok (.goto (-32), 3) := by decide +kernel
theorem dX7_meets_107 : decode cX7_meets 107 = .ok (.iload 5, 2) := by decide +kernel
theorem dX7_meets_109 : decode cX7_meets 109 = .ok (.aload_n 0, 1) := by decide +kernel
theorem dX7_meets_110 : decode cX7_meets 110 = .ok (.getfield 20, 3) := by decide +kernel
theorem dX7_meets_113 : decode cX7_meets 113 = .ok (.iload_n 1, 1) := by decide +kernel
theorem dX7_meets_114 : decode cX7_meets 114 = .ok (.iaload, 1) := by decide +kernel
theorem dX7_meets_115 : decode cX7_meets 115 = .ok (.if_icmp .lt 7, 3) := by decide +kernel
theorem dX7_meets_118 : decode cX7_meets 118 = .ok (.iconst 1, 1) := by decide +kernel
theorem dX7_meets_119 : decode cX7_meets 119 = .ok (.goto 4, 3) := by decide +kernel
theorem dX7_meets_122 : decode cX7_meets 122 = .ok (.iconst 0, 1) := by decide +kernel
theorem dX7_meets_123 : decode cX7_meets 123 = .ok (.ireturn, 1) := by decide +kernel
theorem dX7_payer_0 : decode cX7_payer 0 = .ok (.lload_n 2, 1) := by decide +kernel
theorem dX7_payer_1 : decode cX7_payer 1 = .ok (.lconst 0, 1) := by decide +kernel
theorem dX7_payer_2 : decode cX7_payer 2 = .ok (.lcmp, 1) := by decide +kernel
theorem dX7_payer_3 : decode cX7_payer 3 = .ok (.ifCond .ge 7, 3) := by decide +kernel
theorem dX7_payer_6 : decode cX7_payer 6 = .ok (.lload_n 0, 1) := by decide +kernel
theorem dX7_payer_7 : decode cX7_payer 7 = .ok (.goto 4, 3) := by decide +kernel
theorem dX7_payer_10 : decode cX7_payer 10 = .ok (.lload_n 2, 1) := by decide +kernel
theorem dX7_payer_11 : decode cX7_payer 11 = .ok (.l2i, 1) := by decide +kernel
theorem dX7_payer_12 : decode cX7_payer 12 = .ok (.ireturn, 1) := by decide +kernel
theorem dX7_sameCall_0 : decode cX7_sameCall 0 = .ok (.iconst 0, 1) := by decide +kernel
theorem dX7_sameCall_1 : decode cX7_sameCall 1 = .ok (.istore_n 1, 1) := by decide +kernel
theorem dX7_sameCall_2 : decode cX7_sameCall 2 = .ok (.iconst 1, 1) := by decide +kernel
theorem dX7_sameCall_3 : decode cX7_sameCall 3 = .ok (.istore_n 2, 1) := by decide +kernel
theorem dX7_sameCall_4 : decode cX7_sameCall 4 = .ok (.iload_n 2, 1) := by decide +kernel
theorem dX7_sameCall_5 : decode cX7_sameCall 5 = .ok (.aload_n 0, 1) := by decide +kernel
theorem dX7_sameCall_6 : decode cX7_sameCall 6 = .ok (.getfield 100, 3) := by decide +kernel
theorem dX7_sameCall_9 : decode cX7_sameCall 9 = .ok (.if_icmp .gt 57, 3) := by decide +kernel
theorem dX7_sameCall_12 : decode cX7_sameCall 12 = .ok (.aload_n 0, 1) := by decide +kernel
theorem dX7_sameCall_13 : decode cX7_sameCall 13 = .ok (.getfield 29, 3) := by decide +kernel
theorem dX7_sameCall_16 : decode cX7_sameCall 16 = .ok (.bipush 17, 2) := by decide +kernel
theorem dX7_sameCall_18 : decode cX7_sameCall 18 = .ok (.iload_n 2, 1) := by decide +kernel
theorem dX7_sameCall_19 : decode cX7_sameCall 19 = .ok (.imul, 1) := by decide +kernel
theorem dX7_sameCall_20 : decode cX7_sameCall 20 = .ok (.iconst 0, 1) := by decide +kernel
theorem dX7_sameCall_21 : decode cX7_sameCall 21 = .ok (.iadd, 1) := by decide +kernel
theorem dX7_sameCall_22 : decode cX7_sameCall 22 = .ok (.laload, 1) := by decide +kernel
theorem dX7_sameCall_23 : decode cX7_sameCall 23 = .ok (.aload_n 0, 1) := by decide +kernel
theorem dX7_sameCall_24 : decode cX7_sameCall 24 = .ok (.getfield 29, 3) := by decide +kernel
theorem dX7_sameCall_27 : decode cX7_sameCall 27 = .ok (.iconst 0, 1) := by decide +kernel
theorem dX7_sameCall_28 : decode cX7_sameCall 28 = .ok (.laload, 1) := by decide +kernel
theorem dX7_sameCall_29 : decode cX7_sameCall 29 = .ok (.lcmp, 1) := by decide +kernel
theorem dX7_sameCall_30 : decode cX7_sameCall 30 = .ok (.ifCond .ne 28, 3) := by decide +kernel
theorem dX7_sameCall_33 : decode cX7_sameCall 33 = .ok (.aload_n 0, 1) := by decide +kernel
theorem dX7_sameCall_34 : decode cX7_sameCall 34 = .ok (.getfield 29, 3) := by decide +kernel
theorem dX7_sameCall_37 : decode cX7_sameCall 37 = .ok (.bipush 17, 2) := by decide +kernel
theorem dX7_sameCall_39 : decode cX7_sameCall 39 = .ok (.iload_n 2, 1) := by decide +kernel
theorem dX7_sameCall_40 : decode cX7_sameCall 40 = .ok (.imul, 1) := by decide +kernel
theorem dX7_sameCall_41 : decode cX7_sameCall 41 = .ok (.iconst 1, 1) := by decide +kernel
theorem dX7_sameCall_42 : decode cX7_sameCall 42 = .ok (.iadd, 1) := by decide +kernel
theorem dX7_sameCall_43 : decode cX7_sameCall 43 = .ok (.laload, 1) := by decide +kernel
theorem dX7_sameCall_44 : decode cX7_sameCall 44 = .ok (.aload_n 0, 1) := by decide +kernel
theorem dX7_sameCall_45 : decode cX7_sameCall 45 = .ok (.getfield 29, 3) := by decide +kernel
theorem dX7_sameCall_48 : decode cX7_sameCall 48 = .ok (.iconst 1, 1) := by decide +kernel
theorem dX7_sameCall_49 : decode cX7_sameCall 49 = .ok (.laload, 1) := by decide +kernel
theorem dX7_sameCall_50 : decode cX7_sameCall 50 = .ok (.lcmp, 1) := by decide +kernel
theorem dX7_sameCall_51 : decode cX7_sameCall 51 = .ok (.ifCond .ne 7, 3) := by decide +kernel
theorem dX7_sameCall_54 : decode cX7_sameCall 54 = .ok (.iload_n 2, 1) := by decide +kernel
theorem dX7_sameCall_55 : decode cX7_sameCall 55 = .ok (.goto 4, 3) := by decide +kernel
theorem dX7_sameCall_58 : decode cX7_sameCall 58 = .ok (.iload_n 1, 1) := by decide +kernel
theorem dX7_sameCall_59 : decode cX7_sameCall 59 = .ok (.istore_n 1, 1) := by decide +kernel
theorem dX7_sameCall_60 : decode cX7_sameCall 60 = .ok (.iinc 2 1, 3) := by decide +kernel
theorem dX7_sameCall_63 : decode cX7_sameCall 63 = .ok (.goto (-59), 3) := by decide +kernel
theorem dX7_sameCall_66 : decode cX7_sameCall 66 = .ok (.iload_n 1, 1) := by decide +kernel
theorem dX7_sameCall_67 : decode cX7_sameCall 67 = .ok (.ireturn, 1) := by decide +kernel
theorem dX7_cheapest_0 : decode cX7_cheapest 0 = .ok (.iconst 1, 1) := by decide +kernel
theorem dX7_cheapest_1 : decode cX7_cheapest 1 = .ok (.istore_n 1, 1) := by decide +kernel
theorem dX7_cheapest_2 : decode cX7_cheapest 2 = .ok (.iconst 2, 1) := by decide +kernel
theorem dX7_cheapest_3 : decode cX7_cheapest 3 = .ok (.istore_n 2, 1) := by decide +kernel
theorem dX7_cheapest_4 : decode cX7_cheapest 4 = .ok (.iload_n 2, 1) := by decide +kernel
theorem dX7_cheapest_5 : decode cX7_cheapest 5 = .ok (.aload_n 0, 1) := by decide +kernel
theorem dX7_cheapest_6 : decode cX7_cheapest 6 = .ok (.getfield 100, 3) := by decide +kernel
theorem dX7_cheapest_9 : decode cX7_cheapest 9 = .ok (.if_icmp .gt 41, 3) := by decide +kernel
theorem dX7_cheapest_12 : decode cX7_cheapest 12 = .ok (.aload_n 0, 1) := by decide +kernel
theorem dX7_cheapest_13 : decode cX7_cheapest 13 = .ok (.getfield 29, 3) := by decide +kernel
theorem dX7_cheapest_16 : decode cX7_cheapest 16 = .ok (.bipush 17, 2) := by decide +kernel
theorem dX7_cheapest_18 : decode cX7_cheapest 18 = .ok (.iload_n 2, 1) := by decide +kernel
theorem dX7_cheapest_19 : decode cX7_cheapest 19 = .ok (.imul, 1) := by decide +kernel
theorem dX7_cheapest_20 : decode cX7_cheapest 20 = .ok (.iconst 2, 1) := by decide +kernel
theorem dX7_cheapest_21 : decode cX7_cheapest 21 = .ok (.iadd, 1) := by decide +kernel
theorem dX7_cheapest_22 : decode cX7_cheapest 22 = .ok (.laload, 1) := by decide +kernel
theorem dX7_cheapest_23 : decode cX7_cheapest 23 = .ok (.aload_n 0, 1) := by decide +kernel
theorem dX7_cheapest_24 : decode cX7_cheapest 24 = .ok (.getfield 29, 3) := by decide +kernel
theorem dX7_cheapest_27 : decode cX7_cheapest 27 = .ok (.bipush 17, 2) := by decide +kernel
theorem dX7_cheapest_29 : decode cX7_cheapest 29 = .ok (.iload_n 1, 1) := by decide +kernel
theorem dX7_cheapest_30 : decode cX7_cheapest 30 = .ok (.imul, 1) := by decide +kernel
theorem dX7_cheapest_31 : decode cX7_cheapest 31 = .ok (.iconst 2, 1) := by decide +kernel
theorem dX7_cheapest_32 : decode cX7_cheapest 32 = .ok (.iadd, 1) := by decide +kernel
theorem dX7_cheapest_33 : decode cX7_cheapest 33 = .ok (.laload, 1) := by decide +kernel
theorem dX7_cheapest_34 : decode cX7_cheapest 34 = .ok (.lcmp, 1) := by decide +kernel
theorem dX7_cheapest_35 : decode cX7_cheapest 35 = .ok (.ifCond .gt 7, 3) := by decide +kernel
theorem dX7_cheapest_38 : decode cX7_cheapest 38 = .ok (.iload_n 2, 1) := by decide +kernel
theorem dX7_cheapest_39 : decode cX7_cheapest 39 = .ok (.goto 4, 3) := by decide +kernel
theorem dX7_cheapest_42 : decode cX7_cheapest 42 = .ok (.iload_n 1, 1) := by decide +kernel
theorem dX7_cheapest_43 : decode cX7_cheapest 43 = .ok (.istore_n 1, 1) := by decide +kernel
theorem dX7_cheapest_44 : decode cX7_cheapest 44 = .ok (.iinc 2 1, 3) := by decide +kernel
theorem dX7_cheapest_47 : decode cX7_cheapest 47 = .ok (.goto (-43), 3) := by decide +kernel
theorem dX7_cheapest_50 : decode cX7_cheapest 50 = .ok (.iload_n 1, 1) := by decide +kernel
theorem dX7_cheapest_51 : decode cX7_cheapest 51 = .ok (.ireturn, 1) := by decide +kernel
set_option maxRecDepth 20000 in
theorem ggX7_refusedBy_X7_meets : GoodIn wsX7_refusedBy wsX7_meets := goodIn_r _ [11, 12, 13, 14, 15, 16, 17, 18, 19, 20, 10, 21, 22, 23, 24, 1, 25, 33, 34, 35, 36, 37, 38, 39, 40, 41, 42, 43, 44, 45, 46, 47, 48, 49, 50, 51, 52, 53] (by decide +kernel) (by decide +kernel)
set_option maxRecDepth 20000 in
theorem gX7_refusedBy_X7_meets : GoodIn wsX7_refusedBy (wsV RX7 106 RX7 yX7_meets wsX7_meets) := goodIn_app (goodIn_of _ (by decide +kernel)) ggX7_refusedBy_X7_meets
set_option maxRecDepth 20000 in
theorem ggX7_refusedBy_X7_payer : GoodIn wsX7_refusedBy wsX7_payer := goodIn_r _ [28] (by decide +kernel) (by decide +kernel)
set_option maxRecDepth 20000 in
theorem gX7_refusedBy_X7_payer : GoodIn wsX7_refusedBy (va_wsS RX7 109 yX7_payer wsX7_payer) := goodIn_app (goodIn_of _ (by decide +kernel)) ggX7_refusedBy_X7_payer
set_option maxRecDepth 20000 in
theorem ggX7_refusedBy_X7_cheapest : GoodIn wsX7_refusedBy wsX7_cheapest := goodIn_r _ [32, 6, 1, 33, 34, 35, 36, 37, 38, 39, 40, 41, 42, 43, 44, 45, 46, 47, 48, 49, 50, 51, 52, 53] (by decide +kernel) (by decide +kernel)
set_option maxRecDepth 20000 in
theorem gX7_refusedBy_X7_cheapest : GoodIn wsX7_refusedBy (wsV RX7 113 RX7 yX7_cheapest wsX7_cheapest) := goodIn_app (goodIn_of _ (by decide +kernel)) ggX7_refusedBy_X7_cheapest
theorem dX7_refusedBy_0 : decode cX7_refusedBy 0 = .ok (.aload_n 0, 1) := by decide +kernel
theorem dX7_refusedBy_1 : decode cX7_refusedBy 1 = .ok (.getfield 29, 3) := by decide +kernel
theorem dX7_refusedBy_4 : decode cX7_refusedBy 4 = .ok (.iconst 0, 1) := by decide +kernel
theorem dX7_refusedBy_5 : decode cX7_refusedBy 5 = .ok (.laload, 1) := by decide +kernel
theorem dX7_refusedBy_6 : decode cX7_refusedBy 6 = .ok (.l2i, 1) := by decide +kernel
theorem dX7_refusedBy_7 : decode cX7_refusedBy 7 = .ok (.istore_n 2, 1) := by decide +kernel
theorem dX7_refusedBy_8 : decode cX7_refusedBy 8 = .ok (.aload_n 0, 1) := by decide +kernel
theorem dX7_refusedBy_9 : decode cX7_refusedBy 9 = .ok (.getfield 29, 3) := by decide +kernel
theorem dX7_refusedBy_12 : decode cX7_refusedBy 12 = .ok (.bipush 6, 2) := by decide +kernel
theorem dX7_refusedBy_14 : decode cX7_refusedBy 14 = .ok (.laload, 1) := by decide +kernel
theorem dX7_refusedBy_15 : decode cX7_refusedBy 15 = .ok (.l2i, 1) := by decide +kernel
theorem dX7_refusedBy_16 : decode cX7_refusedBy 16 = .ok (.istore_n 3, 1) := by decide +kernel
theorem dX7_refusedBy_17 : decode cX7_refusedBy 17 = .ok (.aload_n 0, 1) := by decide +kernel
theorem dX7_refusedBy_18 : decode cX7_refusedBy 18 = .ok (.getfield 29, 3) := by decide +kernel
theorem dX7_refusedBy_21 : decode cX7_refusedBy 21 = .ok (.bipush 8, 2) := by decide +kernel
theorem dX7_refusedBy_23 : decode cX7_refusedBy 23 = .ok (.laload, 1) := by decide +kernel
theorem dX7_refusedBy_24 : decode cX7_refusedBy 24 = .ok (.lconst 0, 1) := by decide +kernel
theorem dX7_refusedBy_25 : decode cX7_refusedBy 25 = .ok (.lcmp, 1) := by decide +kernel
theorem dX7_refusedBy_26 : decode cX7_refusedBy 26 = .ok (.ifCond .ne 5, 3) := by decide +kernel
theorem dX7_refusedBy_29 : decode cX7_refusedBy 29 = .ok (.iconst 1, 1) := by decide +kernel
theorem dX7_refusedBy_30 : decode cX7_refusedBy 30 = .ok (.ireturn, 1) := by decide +kernel
theorem dX7_refusedBy_31 : decode cX7_refusedBy 31 = .ok (.aload_n 0, 1) := by decide +kernel
theorem dX7_refusedBy_32 : decode cX7_refusedBy 32 = .ok (.getfield 29, 3) := by decide +kernel
theorem dX7_refusedBy_35 : decode cX7_refusedBy 35 = .ok (.iconst 4, 1) := by decide +kernel
theorem dX7_refusedBy_36 : decode cX7_refusedBy 36 = .ok (.laload, 1) := by decide +kernel
theorem dX7_refusedBy_37 : decode cX7_refusedBy 37 = .ok (.aload_n 0, 1) := by decide +kernel
theorem dX7_refusedBy_38 : decode cX7_refusedBy 38 = .ok (.getfield 103, 3) := by decide +kernel
theorem dX7_refusedBy_41 : decode cX7_refusedBy 41 = .ok (.i2l, 1) := by decide +kernel
theorem dX7_refusedBy_42 : decode cX7_refusedBy 42 = .ok (.lcmp, 1) := by decide +kernel
theorem dX7_refusedBy_43 : decode cX7_refusedBy 43 = .ok (.ifCond .ge 5, 3) := by decide +kernel
theorem dX7_refusedBy_46 : decode cX7_refusedBy 46 = .ok (.iconst 2, 1) := by decide +kernel
theorem dX7_refusedBy_47 : decode cX7_refusedBy 47 = .ok (.ireturn, 1) := by decide +kernel
theorem dX7_refusedBy_48 : decode cX7_refusedBy 48 = .ok (.aload_n 0, 1) := by decide +kernel
theorem dX7_refusedBy_49 : decode cX7_refusedBy 49 = .ok (.getfield 29, 3) := by decide +kernel
theorem dX7_refusedBy_52 : decode cX7_refusedBy 52 = .ok (.iconst 1, 1) := by decide +kernel
theorem dX7_refusedBy_53 : decode cX7_refusedBy 53 = .ok (.laload, 1) := by decide +kernel
theorem dX7_refusedBy_54 : decode cX7_refusedBy 54 = .ok (.aload_n 0, 1) := by decide +kernel
theorem dX7_refusedBy_55 : decode cX7_refusedBy 55 = .ok (.getfield 13, 3) := by decide +kernel
theorem dX7_refusedBy_58 : decode cX7_refusedBy 58 = .ok (.iload_n 2, 1) := by decide +kernel
theorem dX7_refusedBy_59 : decode cX7_refusedBy 59 = .ok (.iaload, 1) := by decide +kernel
theorem dX7_refusedBy_60 : decode cX7_refusedBy 60 = .ok (.i2l, 1) := by decide +kernel
theorem dX7_refusedBy_61 : decode cX7_refusedBy 61 = .ok (.lcmp, 1) := by decide +kernel
theorem dX7_refusedBy_62 : decode cX7_refusedBy 62 = .ok (.ifCond .ge 5, 3) := by decide +kernel
theorem dX7_refusedBy_65 : decode cX7_refusedBy 65 = .ok (.iconst 3, 1) := by decide +kernel
theorem dX7_refusedBy_66 : decode cX7_refusedBy 66 = .ok (.ireturn, 1) := by decide +kernel
theorem dX7_refusedBy_67 : decode cX7_refusedBy 67 = .ok (.aload_n 0, 1) := by decide +kernel
theorem dX7_refusedBy_68 : decode cX7_refusedBy 68 = .ok (.iload_n 2, 1) := by decide +kernel
theorem dX7_refusedBy_69 : decode cX7_refusedBy 69 = .ok (.invokevirtual 106, 3) := by decide +kernel
theorem dX7_refusedBy_72 : decode cX7_refusedBy 72 = .ok (.ifCond .ne 5, 3) := by decide +kernel
theorem dX7_refusedBy_75 : decode cX7_refusedBy 75 = .ok (.iconst 4, 1) := by decide +kernel
theorem dX7_refusedBy_76 : decode cX7_refusedBy 76 = .ok (.ireturn, 1) := by decide +kernel
theorem dX7_refusedBy_77 : decode cX7_refusedBy 77 = .ok (.iload_n 3, 1) := by decide +kernel
theorem dX7_refusedBy_78 : decode cX7_refusedBy 78 = .ok (.ifCond .lt 13, 3) := by decide +kernel
theorem dX7_refusedBy_81 : decode cX7_refusedBy 81 = .ok (.aload_n 0, 1) := by decide +kernel
theorem dX7_refusedBy_82 : decode cX7_refusedBy 82 = .ok (.iload_n 3, 1) := by decide +kernel
theorem dX7_refusedBy_83 : decode cX7_refusedBy 83 = .ok (.invokevirtual 106, 3) := by decide +kernel
theorem dX7_refusedBy_86 : decode cX7_refusedBy 86 = .ok (.ifCond .ne 5, 3) := by decide +kernel
theorem dX7_refusedBy_89 : decode cX7_refusedBy 89 = .ok (.iconst 5, 1) := by decide +kernel
theorem dX7_refusedBy_90 : decode cX7_refusedBy 90 = .ok (.ireturn, 1) := by decide +kernel
theorem dX7_refusedBy_91 : decode cX7_refusedBy 91 = .ok (.aload_n 0, 1) := by decide +kernel
theorem dX7_refusedBy_92 : decode cX7_refusedBy 92 = .ok (.getfield 7, 3) := by decide +kernel
theorem dX7_refusedBy_95 : decode cX7_refusedBy 95 = .ok (.iload_n 2, 1) := by decide +kernel
theorem dX7_refusedBy_96 : decode cX7_refusedBy 96 = .ok (.i2l, 1) := by decide +kernel
theorem dX7_refusedBy_97 : decode cX7_refusedBy 97 = .ok (.iload_n 3, 1) := by decide +kernel
theorem dX7_refusedBy_98 : decode cX7_refusedBy 98 = .ok (.i2l, 1) := by decide +kernel
theorem dX7_refusedBy_99 : decode cX7_refusedBy 99 = .ok (.invokestatic 109, 3) := by decide +kernel
theorem dX7_refusedBy_102 : decode cX7_refusedBy 102 = .ok (.laload, 1) := by decide +kernel
theorem dX7_refusedBy_103 : decode cX7_refusedBy 103 = .ok (.aload_n 0, 1) := by decide +kernel
theorem dX7_refusedBy_104 : decode cX7_refusedBy 104 = .ok (.getfield 29, 3) := by decide +kernel
theorem dX7_refusedBy_107 : decode cX7_refusedBy 107 = .ok (.iconst 2, 1) := by decide +kernel
theorem dX7_refusedBy_108 : decode cX7_refusedBy 108 = .ok (.laload, 1) := by decide +kernel
theorem dX7_refusedBy_109 : decode cX7_refusedBy 109 = .ok (.aload_n 0, 1) := by decide +kernel
theorem dX7_refusedBy_110 : decode cX7_refusedBy 110 = .ok (.getfield 29, 3) := by decide +kernel
theorem dX7_refusedBy_113 : decode cX7_refusedBy 113 = .ok (.iconst 3, 1) := by decide +kernel
theorem dX7_refusedBy_114 : decode cX7_refusedBy 114 = .ok (.laload, 1) := by decide +kernel
theorem dX7_refusedBy_115 : decode cX7_refusedBy 115 = .ok (.lmul, 1) := by decide +kernel
theorem dX7_refusedBy_116 : decode cX7_refusedBy 116 = .ok (.lcmp, 1) := by decide +kernel
theorem dX7_refusedBy_117 : decode cX7_refusedBy 117 = .ok (.ifCond .ge 6, 3) := by decide +kernel
theorem dX7_refusedBy_120 : decode cX7_refusedBy 120 = .ok (.bipush 6, 2) := by decide +kernel
theorem dX7_refusedBy_122 : decode cX7_refusedBy 122 = .ok (.ireturn, 1) := by decide +kernel
theorem dX7_refusedBy_123 : decode cX7_refusedBy 123 = .ok (.iload_n 1, 1) := by decide +kernel
theorem dX7_refusedBy_124 : decode cX7_refusedBy 124 = .ok (.ifCond .le 37, 3) := by decide +kernel
theorem dX7_refusedBy_127 : decode cX7_refusedBy 127 = .ok (.aload_n 0, 1) := by decide +kernel
theorem dX7_refusedBy_128 : decode cX7_refusedBy 128 = .ok (.getfield 29, 3) := by decide +kernel
theorem dX7_refusedBy_131 : decode cX7_refusedBy 131 = .ok (.iconst 2, 1) := by decide +kernel
theorem dX7_refusedBy_132 : decode cX7_refusedBy 132 = .ok (.laload, 1) := by decide +kernel
theorem dX7_refusedBy_133 : decode cX7_refusedBy 133 = .ok (.aload_n 0, 1) := by decide +kernel
theorem dX7_refusedBy_134 : decode cX7_refusedBy 134 = .ok (.getfield 29, 3) := by decide +kernel
theorem dX7_refusedBy_137 : decode cX7_refusedBy 137 = .ok (.bipush 17, 2) := by decide +kernel
theorem dX7_refusedBy_139 : decode cX7_refusedBy 139 = .ok (.iload_n 1, 1) := by decide +kernel
theorem dX7_refusedBy_140 : decode cX7_refusedBy 140 = .ok (.imul, 1) := by decide +kernel
theorem dX7_refusedBy_141 : decode cX7_refusedBy 141 = .ok (.iconst 2, 1) := by decide +kernel
theorem dX7_refusedBy_142 : decode cX7_refusedBy 142 = .ok (.iadd, 1) := by decide +kernel
theorem dX7_refusedBy_143 : decode cX7_refusedBy 143 = .ok (.laload, 1) := by decide +kernel
theorem dX7_refusedBy_144 : decode cX7_refusedBy 144 = .ok (.aload_n 0, 1) := by decide +kernel
theorem dX7_refusedBy_145 : decode cX7_refusedBy 145 = .ok (.getfield 35, 3) := by decide +kernel
theorem dX7_refusedBy_148 : decode cX7_refusedBy 148 = .ok (.i2l, 1) := by decide +kernel
theorem dX7_refusedBy_149 : decode cX7_refusedBy 149 = .ok (.ladd, 1) := by decide +kernel
theorem dX7_refusedBy_150 : decode cX7_refusedBy 150 = .ok (.lcmp, 1) := by decide +kernel
theorem dX7_refusedBy_151 : decode cX7_refusedBy 151 = .ok (.ifCond .ge 8, 3) := by decide +kernel
theorem dX7_refusedBy_154 : decode cX7_refusedBy 154 = .ok (.bipush 7, 2) := by decide +kernel
theorem dX7_refusedBy_156 : decode cX7_refusedBy 156 = .ok (.goto 4, 3) := by decide +kernel
theorem dX7_refusedBy_159 : decode cX7_refusedBy 159 = .ok (.iconst 0, 1) := by decide +kernel
theorem dX7_refusedBy_160 : decode cX7_refusedBy 160 = .ok (.ireturn, 1) := by decide +kernel
theorem dX7_refusedBy_161 : decode cX7_refusedBy 161 = .ok (.aload_n 0, 1) := by decide +kernel
theorem dX7_refusedBy_162 : decode cX7_refusedBy 162 = .ok (.getfield 100, 3) := by decide +kernel
theorem dX7_refusedBy_165 : decode cX7_refusedBy 165 = .ok (.bipush 24, 2) := by decide +kernel
theorem dX7_refusedBy_167 : decode cX7_refusedBy 167 = .ok (.if_icmp .ne 32, 3) := by decide +kernel
theorem dX7_refusedBy_170 : decode cX7_refusedBy 170 = .ok (.aload_n 0, 1) := by decide +kernel
theorem dX7_refusedBy_171 : decode cX7_refusedBy 171 = .ok (.getfield 29, 3) := by decide +kernel
theorem dX7_refusedBy_174 : decode cX7_refusedBy 174 = .ok (.iconst 2, 1) := by decide +kernel
theorem dX7_refusedBy_175 : decode cX7_refusedBy 175 = .ok (.laload, 1) := by decide +kernel
theorem dX7_refusedBy_176 : decode cX7_refusedBy 176 = .ok (.aload_n 0, 1) := by decide +kernel
theorem dX7_refusedBy_177 : decode cX7_refusedBy 177 = .ok (.getfield 29, 3) := by decide +kernel
theorem dX7_refusedBy_180 : decode cX7_refusedBy 180 = .ok (.bipush 17, 2) := by decide +kernel
theorem dX7_refusedBy_182 : decode cX7_refusedBy 182 = .ok (.aload_n 0, 1) := by decide +kernel
theorem dX7_refusedBy_183 : decode cX7_refusedBy 183 = .ok (.invokevirtual 113, 3) := by decide +kernel
theorem dX7_refusedBy_186 : decode cX7_refusedBy 186 = .ok (.imul, 1) := by decide +kernel
theorem dX7_refusedBy_187 : decode cX7_refusedBy 187 = .ok (.iconst 2, 1) := by decide +kernel
theorem dX7_refusedBy_188 : decode cX7_refusedBy 188 = .ok (.iadd, 1) := by decide +kernel
theorem dX7_refusedBy_189 : decode cX7_refusedBy 189 = .ok (.laload, 1) := by decide +kernel
theorem dX7_refusedBy_190 : decode cX7_refusedBy 190 = .ok (.lcmp, 1) := by decide +kernel
theorem dX7_refusedBy_191 : decode cX7_refusedBy 191 = .ok (.ifCond .gt 8, 3) := by decide +kernel
theorem dX7_refusedBy_194 : decode cX7_refusedBy 194 = .ok (.bipush 8, 2) := by decide +kernel
theorem dX7_refusedBy_196 : decode cX7_refusedBy 196 = .ok (.goto 4, 3) := by decide +kernel
theorem dX7_refusedBy_199 : decode cX7_refusedBy 199 = .ok (.iconst 0, 1) := by decide +kernel
theorem dX7_refusedBy_200 : decode cX7_refusedBy 200 = .ok (.ireturn, 1) := by decide +kernel
theorem dX7_takeOut_0 : decode cX7_takeOut 0 = .ok (.bipush 17, 2) := by decide +kernel
theorem dX7_takeOut_2 : decode cX7_takeOut 2 = .ok (.iload_n 1, 1) := by decide +kernel
theorem dX7_takeOut_3 : decode cX7_takeOut 3 = .ok (.imul, 1) := by decide +kernel
theorem dX7_takeOut_4 : decode cX7_takeOut 4 = .ok (.istore_n 2, 1) := by decide +kernel
theorem dX7_takeOut_5 : decode cX7_takeOut 5 = .ok (.iload_n 2, 1) := by decide +kernel
theorem dX7_takeOut_6 : decode cX7_takeOut 6 = .ok (.bipush 17, 2) := by decide +kernel
theorem dX7_takeOut_8 : decode cX7_takeOut 8 = .ok (.aload_n 0, 1) := by decide +kernel
theorem dX7_takeOut_9 : decode cX7_takeOut 9 = .ok (.getfield 100, 3) := by decide +kernel
theorem dX7_takeOut_12 : decode cX7_takeOut 12 = .ok (.imul, 1) := by decide +kernel
theorem dX7_takeOut_13 : decode cX7_takeOut 13 = .ok (.if_icmp .ge 24, 3) := by decide +kernel
theorem dX7_takeOut_16 : decode cX7_takeOut 16 = .ok (.aload_n 0, 1) := by decide +kernel
theorem dX7_takeOut_17 : decode cX7_takeOut 17 = .ok (.getfield 29, 3) := by decide +kernel
theorem dX7_takeOut_20 : decode cX7_takeOut 20 = .ok (.iload_n 2, 1) := by decide +kernel
theorem dX7_takeOut_21 : decode cX7_takeOut 21 = .ok (.aload_n 0, 1) := by decide +kernel
theorem dX7_takeOut_22 : decode cX7_takeOut 22 = .ok (.getfield 29, 3) := by decide +kernel
theorem dX7_takeOut_25 : decode cX7_takeOut 25 = .ok (.iload_n 2, 1) := by decide +kernel
theorem dX7_takeOut_26 : decode cX7_takeOut 26 = .ok (.bipush 17, 2) := by decide +kernel
theorem dX7_takeOut_28 : decode cX7_takeOut 28 = .ok (.iadd, 1) := by decide +kernel
theorem dX7_takeOut_29 : decode cX7_takeOut 29 = .ok (.laload, 1) := by decide +kernel
theorem dX7_takeOut_30 : decode cX7_takeOut 30 = .ok (.lastore, 1) := by decide +kernel
theorem dX7_takeOut_31 : decode cX7_takeOut 31 = .ok (.iinc 2 1, 3) := by decide +kernel
theorem dX7_takeOut_34 : decode cX7_takeOut 34 = .ok (.goto (-29), 3) := by decide +kernel
theorem dX7_takeOut_37 : decode cX7_takeOut 37 = .ok (.aload_n 0, 1) := by decide +kernel
theorem dX7_takeOut_38 : decode cX7_takeOut 38 = .ok (.dup, 1) := by decide +kernel
theorem dX7_takeOut_39 : decode cX7_takeOut 39 = .ok (.getfield 100, 3) := by decide +kernel
theorem dX7_takeOut_42 : decode cX7_takeOut 42 = .ok (.iconst 1, 1) := by decide +kernel
theorem dX7_takeOut_43 : decode cX7_takeOut 43 = .ok (.isub, 1) := by decide +kernel
theorem dX7_takeOut_44 : decode cX7_takeOut 44 = .ok (.putfield 100, 3) := by decide +kernel
theorem dX7_takeOut_47 : decode cX7_takeOut 47 = .ok (.return_, 1) := by decide +kernel
theorem dX7_comes_0 : decode cX7_comes 0 = .ok (.iconst 3, 1) := by decide +kernel
theorem dX7_comes_1 : decode cX7_comes 1 = .ok (.aload_n 0, 1) := by decide +kernel
theorem dX7_comes_2 : decode cX7_comes 2 = .ok (.getfield 117, 3) := by decide +kernel
theorem dX7_comes_5 : decode cX7_comes 5 = .ok (.bipush 60, 2) := by decide +kernel
theorem dX7_comes_7 : decode cX7_comes 7 = .ok (.irem, 1) := by decide +kernel
theorem dX7_comes_8 : decode cX7_comes 8 = .ok (.imul, 1) := by decide +kernel
theorem dX7_comes_9 : decode cX7_comes 9 = .ok (.istore 4, 2) := by decide +kernel
theorem dX7_comes_11 : decode cX7_comes 11 = .ok (.aload_n 0, 1) := by decide +kernel
theorem dX7_comes_12 : decode cX7_comes 12 = .ok (.getfield 39, 3) := by decide +kernel
theorem dX7_comes_15 : decode cX7_comes 15 = .ok (.iload 4, 2) := by decide +kernel
theorem dX7_comes_17 : decode cX7_comes 17 = .ok (.iload_n 1, 1) := by decide +kernel
theorem dX7_comes_18 : decode cX7_comes 18 = .ok (.iastore, 1) := by decide +kernel
theorem dX7_comes_19 : decode cX7_comes 19 = .ok (.aload_n 0, 1) := by decide +kernel
theorem dX7_comes_20 : decode cX7_comes 20 = .ok (.getfield 39, 3) := by decide +kernel
theorem dX7_comes_23 : decode cX7_comes 23 = .ok (.iload 4, 2) := by decide +kernel
theorem dX7_comes_25 : decode cX7_comes 25 = .ok (.iconst 1, 1) := by decide +kernel
theorem dX7_comes_26 : decode cX7_comes 26 = .ok (.iadd, 1) := by decide +kernel
theorem dX7_comes_27 : decode cX7_comes 27 = .ok (.iload_n 2, 1) := by decide +kernel
theorem dX7_comes_28 : decode cX7_comes 28 = .ok (.iastore, 1) := by decide +kernel
theorem dX7_comes_29 : decode cX7_comes 29 = .ok (.aload_n 0, 1) := by decide +kernel
theorem dX7_comes_30 : decode cX7_comes 30 = .ok (.getfield 39, 3) := by decide +kernel
theorem dX7_comes_33 : decode cX7_comes 33 = .ok (.iload 4, 2) := by decide +kernel
theorem dX7_comes_35 : decode cX7_comes 35 = .ok (.iconst 2, 1) := by decide +kernel
theorem dX7_comes_36 : decode cX7_comes 36 = .ok (.iadd, 1) := by decide +kernel
theorem dX7_comes_37 : decode cX7_comes 37 = .ok (.iload_n 3, 1) := by decide +kernel
theorem dX7_comes_38 : decode cX7_comes 38 = .ok (.iastore, 1) := by decide +kernel
theorem dX7_comes_39 : decode cX7_comes 39 = .ok (.aload_n 0, 1) := by decide +kernel
theorem dX7_comes_40 : decode cX7_comes 40 = .ok (.dup, 1) := by decide +kernel
theorem dX7_comes_41 : decode cX7_comes 41 = .ok (.getfield 117, 3) := by decide +kernel
theorem dX7_comes_44 : decode cX7_comes 44 = .ok (.iconst 1, 1) := by decide +kernel
theorem dX7_comes_45 : decode cX7_comes 45 = .ok (.iadd, 1) := by decide +kernel
theorem dX7_comes_46 : decode cX7_comes 46 = .ok (.putfield 117, 3) := by decide +kernel
theorem dX7_comes_49 : decode cX7_comes 49 = .ok (.return_, 1) := by decide +kernel
set_option maxRecDepth 20000 in
theorem ggX7_offer_X7_sameCall : GoodIn wsX7_offer wsX7_sameCall := goodIn_r _ [9, 2, 3, 52, 53, 54, 55, 56, 57, 58, 59, 60, 61, 62, 63, 64, 65, 66, 67, 68, 69, 70, 71, 72] (by decide +kernel) (by decide +kernel)
set_option maxRecDepth 20000 in
theorem gX7_offer_X7_sameCall : GoodIn wsX7_offer (wsV RX7 120 RX7 yX7_sameCall wsX7_sameCall) := goodIn_app (goodIn_of _ (by decide +kernel)) ggX7_offer_X7_sameCall
set_option maxRecDepth 20000 in
theorem ggX7_offer_X7_refusedBy : GoodIn wsX7_offer wsX7_refusedBy := goodIn_r _ [13, 3, 14, 15, 16, 17, 2, 18, 19, 20, 8, 21, 22, 23, 24, 25, 26, 27, 28, 29, 30, 31, 1, 32, 33, 34, 35, 36, 37, 38, 39, 40, 41, 52, 53, 54, 55, 56, 57, 58, 59, 60, 61, 62, 63, 64, 65, 66, 67, 68, 69, 70, 71, 72] (by decide +kernel) (by decide +kernel)
set_option maxRecDepth 20000 in
theorem gX7_offer_X7_refusedBy : GoodIn wsX7_offer (wsV RX7 123 RX7 yX7_refusedBy wsX7_refusedBy) := goodIn_app (goodIn_of _ (by decide +kernel)) ggX7_offer_X7_refusedBy
set_option maxRecDepth 20000 in
theorem ggX7_offer_X7_cheapest : GoodIn wsX7_offer wsX7_cheapest := goodIn_r _ [41, 2, 3, 52, 53, 54, 55, 56, 57, 58, 59, 60, 61, 62, 63, 64, 65, 66, 67, 68, 69, 70, 71, 72] (by decide +kernel) (by decide +kernel)
set_option maxRecDepth 20000 in
theorem gX7_offer_X7_cheapest : GoodIn wsX7_offer (wsV RX7 113 RX7 yX7_cheapest wsX7_cheapest) := goodIn_app (goodIn_of _ (by decide +kernel)) ggX7_offer_X7_cheapest
set_option maxRecDepth 20000 in
theorem ggX7_offer_X7_comes : GoodIn wsX7_offer wsX7_comes := goodIn_r _ [45, 46, 47, 52, 53, 54, 55, 56, 57, 58, 59, 60, 61, 62, 63, 64, 65, 66, 67, 68, 69, 70, 71, 72] (by decide +kernel) (by decide +kernel)
set_option maxRecDepth 20000 in
theorem gX7_offer_X7_comes : GoodIn wsX7_offer (wsV RX7 127 RX7 yX7_comes wsX7_comes) := goodIn_app (goodIn_of _ (by decide +kernel)) ggX7_offer_X7_comes
set_option maxRecDepth 20000 in
theorem ggX7_offer_X7_takeOut : GoodIn wsX7_offer wsX7_takeOut := goodIn_r _ [51, 2, 3, 52, 53, 54, 55, 56, 57, 58, 59, 60, 61, 62, 63, 64, 65, 66, 67, 68, 69, 70, 71, 72] (by decide +kernel) (by decide +kernel)
set_option maxRecDepth 20000 in
theorem gX7_offer_X7_takeOut : GoodIn wsX7_offer (wsV RX7 131 RX7 yX7_takeOut wsX7_takeOut) := goodIn_app (goodIn_of _ (by decide +kernel)) ggX7_offer_X7_takeOut
theorem dX7_offer_0 : decode cX7_offer 0 = .ok (.aload_n 0, 1) := by decide +kernel
theorem dX7_offer_1 : decode cX7_offer 1 = .ok (.getfield 82, 3) := by decide +kernel
theorem dX7_offer_4 : decode cX7_offer 4 = .ok (.ifCond .ne 6, 3) := by decide +kernel
theorem dX7_offer_7 : decode cX7_offer 7 = .ok (.bipush (-2), 2) := by decide +kernel
theorem dX7_offer_9 : decode cX7_offer 9 = .ok (.ireturn, 1) := by decide +kernel
theorem dX7_offer_10 : decode cX7_offer 10 = .ok (.aload_n 0, 1) := by decide +kernel
theorem dX7_offer_11 : decode cX7_offer 11 = .ok (.invokevirtual 120, 3) := by decide +kernel
theorem dX7_offer_14 : decode cX7_offer 14 = .ok (.istore_n 1, 1) := by decide +kernel
theorem dX7_offer_15 : decode cX7_offer 15 = .ok (.aload_n 0, 1) := by decide +kernel
theorem dX7_offer_16 : decode cX7_offer 16 = .ok (.iload_n 1, 1) := by decide +kernel
theorem dX7_offer_17 : decode cX7_offer 17 = .ok (.invokevirtual 123, 3) := by decide +kernel
theorem dX7_offer_20 : decode cX7_offer 20 = .ok (.istore_n 2, 1) := by decide +kernel
theorem dX7_offer_21 : decode cX7_offer 21 = .ok (.iload_n 2, 1) := by decide +kernel
theorem dX7_offer_22 : decode cX7_offer 22 = .ok (.ifCond .le 8, 3) := by decide +kernel
theorem dX7_offer_25 : decode cX7_offer 25 = .ok (.bipush (-10), 2) := by decide +kernel
theorem dX7_offer_27 : decode cX7_offer 27 = .ok (.iload_n 2, 1) := by decide +kernel
theorem dX7_offer_28 : decode cX7_offer 28 = .ok (.isub, 1) := by decide +kernel
theorem dX7_offer_29 : decode cX7_offer 29 = .ok (.ireturn, 1) := by decide +kernel
theorem dX7_offer_30 : decode cX7_offer 30 = .ok (.iload_n 1, 1) := by decide +kernel
theorem dX7_offer_31 : decode cX7_offer 31 = .ok (.ifCond .gt 12, 3) := by decide +kernel
theorem dX7_offer_34 : decode cX7_offer 34 = .ok (.aload_n 0, 1) := by decide +kernel
theorem dX7_offer_35 : decode cX7_offer 35 = .ok (.getfield 100, 3) := by decide +kernel
theorem dX7_offer_38 : decode cX7_offer 38 = .ok (.bipush 24, 2) := by decide +kernel
theorem dX7_offer_40 : decode cX7_offer 40 = .ok (.if_icmp .ne 48, 3) := by decide +kernel
theorem dX7_offer_43 : decode cX7_offer 43 = .ok (.iload_n 1, 1) := by decide +kernel
theorem dX7_offer_44 : decode cX7_offer 44 = .ok (.ifCond .le 7, 3) := by decide +kernel
theorem dX7_offer_47 : decode cX7_offer 47 = .ok (.iload_n 1, 1) := by decide +kernel
theorem dX7_offer_48 : decode cX7_offer 48 = .ok (.goto 7, 3) := by decide +kernel
theorem dX7_offer_51 : decode cX7_offer 51 = .ok (.aload_n 0, 1) := by decide +kernel
theorem dX7_offer_52 : decode cX7_offer 52 = .ok (.invokevirtual 113, 3) := by decide +kernel
theorem dX7_offer_55 : decode cX7_offer 55 = .ok (.istore_n 3, 1) := by decide +kernel
theorem dX7_offer_56 : decode cX7_offer 56 = .ok (.aload_n 0, 1) := by decide +kernel
theorem dX7_offer_57 : decode cX7_offer 57 = .ok (.aload_n 0, 1) := by decide +kernel
theorem dX7_offer_58 : decode cX7_offer 58 = .ok (.getfield 29, 3) := by decide +kernel
theorem dX7_offer_61 : decode cX7_offer 61 = .ok (.bipush 17, 2) := by decide +kernel
theorem dX7_offer_63 : decode cX7_offer 63 = .ok (.iload_n 3, 1) := by decide +kernel
theorem dX7_offer_64 : decode cX7_offer 64 = .ok (.imul, 1) := by decide +kernel
theorem dX7_offer_65 : decode cX7_offer 65 = .ok (.bipush 7, 2) := by decide +kernel
theorem dX7_offer_67 : decode cX7_offer 67 = .ok (.iadd, 1) := by decide +kernel
theorem dX7_offer_68 : decode cX7_offer 68 = .ok (.laload, 1) := by decide +kernel
theorem dX7_offer_69 : decode cX7_offer 69 = .ok (.l2i, 1) := by decide +kernel
theorem dX7_offer_70 : decode cX7_offer 70 = .ok (.iload_n 1, 1) := by decide +kernel
theorem dX7_offer_71 : decode cX7_offer 71 = .ok (.ifCond .le 7, 3) := by decide +kernel
theorem dX7_offer_74 : decode cX7_offer 74 = .ok (.iconst 3, 1) := by decide +kernel
theorem dX7_offer_75 : decode cX7_offer 75 = .ok (.goto 4, 3) := by decide +kernel
theorem dX7_offer_78 : decode cX7_offer 78 = .ok (.iconst 4, 1) := by decide +kernel
theorem dX7_offer_79 : decode cX7_offer 79 = .ok (.iconst 0, 1) := by decide +kernel
theorem dX7_offer_80 : decode cX7_offer 80 = .ok (.invokevirtual 127, 3) := by decide +kernel
theorem dX7_offer_83 : decode cX7_offer 83 = .ok (.aload_n 0, 1) := by decide +kernel
theorem dX7_offer_84 : decode cX7_offer 84 = .ok (.iload_n 3, 1) := by decide +kernel
theorem dX7_offer_85 : decode cX7_offer 85 = .ok (.invokevirtual 131, 3) := by decide +kernel
theorem dX7_offer_88 : decode cX7_offer 88 = .ok (.aload_n 0, 1) := by decide +kernel
theorem dX7_offer_89 : decode cX7_offer 89 = .ok (.dup, 1) := by decide +kernel
theorem dX7_offer_90 : decode cX7_offer 90 = .ok (.getfield 100, 3) := by decide +kernel
theorem dX7_offer_93 : decode cX7_offer 93 = .ok (.iconst 1, 1) := by decide +kernel
theorem dX7_offer_94 : decode cX7_offer 94 = .ok (.iadd, 1) := by decide +kernel
theorem dX7_offer_95 : decode cX7_offer 95 = .ok (.putfield 100, 3) := by decide +kernel
theorem dX7_offer_98 : decode cX7_offer 98 = .ok (.iconst 0, 1) := by decide +kernel
theorem dX7_offer_99 : decode cX7_offer 99 = .ok (.istore_n 3, 1) := by decide +kernel
theorem dX7_offer_100 : decode cX7_offer 100 = .ok (.iload_n 3, 1) := by decide +kernel
theorem dX7_offer_101 : decode cX7_offer 101 = .ok (.bipush 17, 2) := by decide +kernel
theorem dX7_offer_103 : decode cX7_offer 103 = .ok (.if_icmp .ge 29, 3) := by decide +kernel
theorem dX7_offer_106 : decode cX7_offer 106 = .ok (.aload_n 0, 1) := by decide +kernel
theorem dX7_offer_107 : decode cX7_offer 107 = .ok (.getfield 29, 3) := by decide +kernel
theorem dX7_offer_110 : decode cX7_offer 110 = .ok (.bipush 17, 2) := by decide +kernel
theorem dX7_offer_112 : decode cX7_offer 112 = .ok (.aload_n 0, 1) := by decide +kernel
theorem dX7_offer_113 : decode cX7_offer 113 = .ok (.getfield 100, 3) := by decide +kernel
theorem dX7_offer_116 : decode cX7_offer 116 = .ok (.imul, 1) := by decide +kernel
theorem dX7_offer_117 : decode cX7_offer 117 = .ok (.iload_n 3, 1) := by decide +kernel
theorem dX7_offer_118 : decode cX7_offer 118 = .ok (.iadd, 1) := by decide +kernel
theorem dX7_offer_119 : decode cX7_offer 119 = .ok (.aload_n 0, 1) := by decide +kernel
theorem dX7_offer_120 : decode cX7_offer 120 = .ok (.getfield 29, 3) := by decide +kernel
theorem dX7_offer_123 : decode cX7_offer 123 = .ok (.iload_n 3, 1) := by decide +kernel
theorem dX7_offer_124 : decode cX7_offer 124 = .ok (.laload, 1) := by decide +kernel
theorem dX7_offer_125 : decode cX7_offer 125 = .ok (.lastore, 1) := by decide +kernel
theorem dX7_offer_126 : decode cX7_offer 126 = .ok (.iinc 3 1, 3) := by decide +kernel
theorem dX7_offer_129 : decode cX7_offer 129 = .ok (.goto (-29), 3) := by decide +kernel
theorem dX7_offer_132 : decode cX7_offer 132 = .ok (.aload_n 0, 1) := by decide +kernel
theorem dX7_offer_133 : decode cX7_offer 133 = .ok (.getfield 29, 3) := by decide +kernel
theorem dX7_offer_136 : decode cX7_offer 136 = .ok (.bipush 17, 2) := by decide +kernel
theorem dX7_offer_138 : decode cX7_offer 138 = .ok (.aload_n 0, 1) := by decide +kernel
theorem dX7_offer_139 : decode cX7_offer 139 = .ok (.getfield 100, 3) := by decide +kernel
theorem dX7_offer_142 : decode cX7_offer 142 = .ok (.imul, 1) := by decide +kernel
theorem dX7_offer_143 : decode cX7_offer 143 = .ok (.bipush 7, 2) := by decide +kernel
theorem dX7_offer_145 : decode cX7_offer 145 = .ok (.iadd, 1) := by decide +kernel
theorem dX7_offer_146 : decode cX7_offer 146 = .ok (.aload_n 0, 1) := by decide +kernel
theorem dX7_offer_147 : decode cX7_offer 147 = .ok (.getfield 135, 3) := by decide +kernel
theorem dX7_offer_150 : decode cX7_offer 150 = .ok (.i2l, 1) := by decide +kernel
theorem dX7_offer_151 : decode cX7_offer 151 = .ok (.lastore, 1) := by decide +kernel
theorem dX7_offer_152 : decode cX7_offer 152 = .ok (.aload_n 0, 1) := by decide +kernel
theorem dX7_offer_153 : decode cX7_offer 153 = .ok (.dup, 1) := by decide +kernel
theorem dX7_offer_154 : decode cX7_offer 154 = .ok (.getfield 135, 3) := by decide +kernel
theorem dX7_offer_157 : decode cX7_offer 157 = .ok (.iconst 1, 1) := by decide +kernel
theorem dX7_offer_158 : decode cX7_offer 158 = .ok (.iadd, 1) := by decide +kernel
theorem dX7_offer_159 : decode cX7_offer 159 = .ok (.putfield 135, 3) := by decide +kernel
theorem dX7_offer_162 : decode cX7_offer 162 = .ok (.aload_n 0, 1) := by decide +kernel
theorem dX7_offer_163 : decode cX7_offer 163 = .ok (.getfield 135, 3) := by decide +kernel
theorem dX7_offer_166 : decode cX7_offer 166 = .ok (.iconst 1, 1) := by decide +kernel
theorem dX7_offer_167 : decode cX7_offer 167 = .ok (.isub, 1) := by decide +kernel
theorem dX7_offer_168 : decode cX7_offer 168 = .ok (.ireturn, 1) := by decide +kernel
set_option maxRecDepth 20000 in
theorem ggX7_step_X7_in : GoodIn wsX7_step wsX7_in := goodIn_r _ [6] (by decide +kernel) (by decide +kernel)
set_option maxRecDepth 20000 in
theorem gX7_step_X7_in : GoodIn wsX7_step (va_wsS RX7 48 yX7_in wsX7_in) := goodIn_app (goodIn_of _ (by decide +kernel)) ggX7_step_X7_in
theorem dX7_step_0 : decode cX7_step 0 = .ok (.iload_n 1, 1) := by decide +kernel
theorem dX7_step_1 : decode cX7_step 1 = .ok (.i2l, 1) := by decide +kernel
theorem dX7_step_2 : decode cX7_step 2 = .ok (.lconst 1, 1) := by decide +kernel
theorem dX7_step_3 : decode cX7_step 3 = .ok (.ldc2_w 77, 3) := by decide +kernel
theorem dX7_step_6 : decode cX7_step 6 = .ok (.invokestatic 48, 3) := by decide +kernel
theorem dX7_step_9 : decode cX7_step 9 = .ok (.ifCond .ne 5, 3) := by decide +kernel
theorem dX7_step_12 : decode cX7_step 12 = .ok (.iconst (-1), 1) := by decide +kernel
theorem dX7_step_13 : decode cX7_step 13 = .ok (.ireturn, 1) := by decide +kernel
theorem dX7_step_14 : decode cX7_step 14 = .ok (.aload_n 0, 1) := by decide +kernel
theorem dX7_step_15 : decode cX7_step 15 = .ok (.getfield 35, 3) := by decide +kernel
theorem dX7_step_18 : decode cX7_step 18 = .ok (.istore_n 2, 1) := by decide +kernel
theorem dX7_step_19 : decode cX7_step 19 = .ok (.aload_n 0, 1) := by decide +kernel
theorem dX7_step_20 : decode cX7_step 20 = .ok (.iload_n 1, 1) := by decide +kernel
theorem dX7_step_21 : decode cX7_step 21 = .ok (.putfield 35, 3) := by decide +kernel
theorem dX7_step_24 : decode cX7_step 24 = .ok (.iload_n 2, 1) := by decide +kernel
theorem dX7_step_25 : decode cX7_step 25 = .ok (.ireturn, 1) := by decide +kernel
set_option maxRecDepth 20000 in
theorem ggX7_ends_X7_comes : GoodIn wsX7_ends wsX7_comes := goodIn_r _ [8, 9, 10, 15, 16, 17, 18, 19, 20, 21, 22, 23, 24, 25, 26, 27, 28, 29, 30, 31, 32, 33, 34, 35] (by decide +kernel) (by decide +kernel)
set_option maxRecDepth 20000 in
theorem gX7_ends_X7_comes : GoodIn wsX7_ends (wsV RX7 127 RX7 yX7_comes wsX7_comes) := goodIn_app (goodIn_of _ (by decide +kernel)) ggX7_ends_X7_comes
set_option maxRecDepth 20000 in
theorem ggX7_ends_X7_takeOut : GoodIn wsX7_ends wsX7_takeOut := goodIn_r _ [14, 1, 2, 15, 16, 17, 18, 19, 20, 21, 22, 23, 24, 25, 26, 27, 28, 29, 30, 31, 32, 33, 34, 35] (by decide +kernel) (by decide +kernel)
set_option maxRecDepth 20000 in
theorem gX7_ends_X7_takeOut : GoodIn wsX7_ends (wsV RX7 131 RX7 yX7_takeOut wsX7_takeOut) := goodIn_app (goodIn_of _ (by decide +kernel)) ggX7_ends_X7_takeOut
theorem dX7_ends_0 : decode cX7_ends 0 = .ok (.iconst 1, 1) := by decide +kernel
theorem dX7_ends_1 : decode cX7_ends 1 = .ok (.istore_n 1, 1) := by decide +kernel
theorem dX7_ends_2 : decode cX7_ends 2 = .ok (.iload_n 1, 1) := by decide +kernel
theorem dX7_ends_3 : decode cX7_ends 3 = .ok (.aload_n 0, 1) := by decide +kernel
theorem dX7_ends_4 : decode cX7_ends 4 = .ok (.getfield 100, 3) := by decide +kernel
theorem dX7_ends_7 : decode cX7_ends 7 = .ok (.if_icmp .gt 56, 3) := by decide +kernel
theorem dX7_ends_10 : decode cX7_ends 10 = .ok (.aload_n 0, 1) := by decide +kernel
theorem dX7_ends_11 : decode cX7_ends 11 = .ok (.getfield 29, 3) := by decide +kernel
theorem dX7_ends_14 : decode cX7_ends 14 = .ok (.bipush 17, 2) := by decide +kernel
theorem dX7_ends_16 : decode cX7_ends 16 = .ok (.iload_n 1, 1) := by decide +kernel
theorem dX7_ends_17 : decode cX7_ends 17 = .ok (.imul, 1) := by decide +kernel
theorem dX7_ends_18 : decode cX7_ends 18 = .ok (.iconst 4, 1) := by decide +kernel
theorem dX7_ends_19 : decode cX7_ends 19 = .ok (.iadd, 1) := by decide +kernel
theorem dX7_ends_20 : decode cX7_ends 20 = .ok (.laload, 1) := by decide +kernel
theorem dX7_ends_21 : decode cX7_ends 21 = .ok (.aload_n 0, 1) := by decide +kernel
theorem dX7_ends_22 : decode cX7_ends 22 = .ok (.getfield 103, 3) := by decide +kernel
theorem dX7_ends_25 : decode cX7_ends 25 = .ok (.i2l, 1) := by decide +kernel
theorem dX7_ends_26 : decode cX7_ends 26 = .ok (.lcmp, 1) := by decide +kernel
theorem dX7_ends_27 : decode cX7_ends 27 = .ok (.ifCond .ge 30, 3) := by decide +kernel
theorem dX7_ends_30 : decode cX7_ends 30 = .ok (.aload_n 0, 1) := by decide +kernel
theorem dX7_ends_31 : decode cX7_ends 31 = .ok (.aload_n 0, 1) := by decide +kernel
theorem dX7_ends_32 : decode cX7_ends 32 = .ok (.getfield 29, 3) := by decide +kernel
theorem dX7_ends_35 : decode cX7_ends 35 = .ok (.bipush 17, 2) := by decide +kernel
theorem dX7_ends_37 : decode cX7_ends 37 = .ok (.iload_n 1, 1) := by decide +kernel
theorem dX7_ends_38 : decode cX7_ends 38 = .ok (.imul, 1) := by decide +kernel
theorem dX7_ends_39 : decode cX7_ends 39 = .ok (.bipush 7, 2) := by decide +kernel
theorem dX7_ends_41 : decode cX7_ends 41 = .ok (.iadd, 1) := by decide +kernel
theorem dX7_ends_42 : decode cX7_ends 42 = .ok (.laload, 1) := by decide +kernel
theorem dX7_ends_43 : decode cX7_ends 43 = .ok (.l2i, 1) := by decide +kernel
theorem dX7_ends_44 : decode cX7_ends 44 = .ok (.iconst 2, 1) := by decide +kernel
theorem dX7_ends_45 : decode cX7_ends 45 = .ok (.iconst 0, 1) := by decide +kernel
theorem dX7_ends_46 : decode cX7_ends 46 = .ok (.invokevirtual 127, 3) := by decide +kernel
theorem dX7_ends_49 : decode cX7_ends 49 = .ok (.aload_n 0, 1) := by decide +kernel
theorem dX7_ends_50 : decode cX7_ends 50 = .ok (.iload_n 1, 1) := by decide +kernel
theorem dX7_ends_51 : decode cX7_ends 51 = .ok (.invokevirtual 131, 3) := by decide +kernel
theorem dX7_ends_54 : decode cX7_ends 54 = .ok (.goto (-52), 3) := by decide +kernel
theorem dX7_ends_57 : decode cX7_ends 57 = .ok (.iinc 1 1, 3) := by decide +kernel
theorem dX7_ends_60 : decode cX7_ends 60 = .ok (.goto (-58), 3) := by decide +kernel
theorem dX7_ends_63 : decode cX7_ends 63 = .ok (.return_, 1) := by decide +kernel
theorem dX7_dearest_0 : decode cX7_dearest 0 = .ok (.iconst 0, 1) := by decide +kernel
theorem dX7_dearest_1 : decode cX7_dearest 1 = .ok (.istore_n 1, 1) := by decide +kernel
theorem dX7_dearest_2 : decode cX7_dearest 2 = .ok (.iconst 1, 1) := by decide +kernel
theorem dX7_dearest_3 : decode cX7_dearest 3 = .ok (.istore_n 2, 1) := by decide +kernel
theorem dX7_dearest_4 : decode cX7_dearest 4 = .ok (.iload_n 2, 1) := by decide +kernel
theorem dX7_dearest_5 : decode cX7_dearest 5 = .ok (.aload_n 0, 1) := by decide +kernel
theorem dX7_dearest_6 : decode cX7_dearest 6 = .ok (.getfield 100, 3) := by decide +kernel
theorem dX7_dearest_9 : decode cX7_dearest 9 = .ok (.if_icmp .gt 120, 3) := by decide +kernel
theorem dX7_dearest_12 : decode cX7_dearest 12 = .ok (.bipush 17, 2) := by decide +kernel
theorem dX7_dearest_14 : decode cX7_dearest 14 = .ok (.iload_n 2, 1) := by decide +kernel
theorem dX7_dearest_15 : decode cX7_dearest 15 = .ok (.imul, 1) := by decide +kernel
theorem dX7_dearest_16 : decode cX7_dearest 16 = .ok (.istore_n 3, 1) := by decide +kernel
theorem dX7_dearest_17 : decode cX7_dearest 17 = .ok (.aload_n 0, 1) := by decide +kernel
theorem dX7_dearest_18 : decode cX7_dearest 18 = .ok (.getfield 29, 3) := by decide +kernel
theorem dX7_dearest_21 : decode cX7_dearest 21 = .ok (.iload_n 3, 1) := by decide +kernel
theorem dX7_dearest_22 : decode cX7_dearest 22 = .ok (.iconst 1, 1) := by decide +kernel
theorem dX7_dearest_23 : decode cX7_dearest 23 = .ok (.iadd, 1) := by decide +kernel
theorem dX7_dearest_24 : decode cX7_dearest 24 = .ok (.laload, 1) := by decide +kernel
theorem dX7_dearest_25 : decode cX7_dearest 25 = .ok (.aload_n 0, 1) := by decide +kernel
theorem dX7_dearest_26 : decode cX7_dearest 26 = .ok (.getfield 13, 3) := by decide +kernel
theorem dX7_dearest_29 : decode cX7_dearest 29 = .ok (.aload_n 0, 1) := by decide +kernel
theorem dX7_dearest_30 : decode cX7_dearest 30 = .ok (.getfield 29, 3) := by decide +kernel
theorem dX7_dearest_33 : decode cX7_dearest 33 = .ok (.iload_n 3, 1) := by decide +kernel
theorem dX7_dearest_34 : decode cX7_dearest 34 = .ok (.iconst 0, 1) := by decide +kernel
theorem dX7_dearest_35 : decode cX7_dearest 35 = .ok (.iadd, 1) := by decide +kernel
theorem dX7_dearest_36 : decode cX7_dearest 36 = .ok (.laload, 1) := by decide +kernel
theorem dX7_dearest_37 : decode cX7_dearest 37 = .ok (.l2i, 1) := by decide +kernel
theorem dX7_dearest_38 : decode cX7_dearest 38 = .ok (.iaload, 1) := by decide +kernel
theorem dX7_dearest_39 : decode cX7_dearest 39 = .ok (.i2l, 1) := by decide +kernel
theorem dX7_dearest_40 : decode cX7_dearest 40 = .ok (.lcmp, 1) := by decide +kernel
theorem dX7_dearest_41 : decode cX7_dearest 41 = .ok (.ifCond .ne 41, 3) := by decide +kernel
theorem dX7_dearest_44 : decode cX7_dearest 44 = .ok (.aload_n 0, 1) := by decide +kernel
theorem dX7_dearest_45 : decode cX7_dearest 45 = .ok (.getfield 29, 3) := by decide +kernel
theorem dX7_dearest_48 : decode cX7_dearest 48 = .ok (.iload_n 3, 1) := by decide +kernel
theorem dX7_dearest_49 : decode cX7_dearest 49 = .ok (.iconst 5, 1) := by decide +kernel
theorem dX7_dearest_50 : decode cX7_dearest 50 = .ok (.iadd, 1) := by decide +kernel
theorem dX7_dearest_51 : decode cX7_dearest 51 = .ok (.laload, 1) := by decide +kernel
theorem dX7_dearest_52 : decode cX7_dearest 52 = .ok (.aload_n 0, 1) := by decide +kernel
theorem dX7_dearest_53 : decode cX7_dearest 53 = .ok (.getfield 103, 3) := by decide +kernel
theorem dX7_dearest_56 : decode cX7_dearest 56 = .ok (.i2l, 1) := by decide +kernel
theorem dX7_dearest_57 : decode cX7_dearest 57 = .ok (.lcmp, 1) := by decide +kernel
theorem dX7_dearest_58 : decode cX7_dearest 58 = .ok (.ifCond .gt 24, 3) := by decide +kernel
theorem dX7_dearest_61 : decode cX7_dearest 61 = .ok (.aload_n 0, 1) := by decide +kernel
theorem dX7_dearest_62 : decode cX7_dearest 62 = .ok (.getfield 29, 3) := by decide +kernel
theorem dX7_dearest_65 : decode cX7_dearest 65 = .ok (.iload_n 3, 1) := by decide +kernel
theorem dX7_dearest_66 : decode cX7_dearest 66 = .ok (.iconst 3, 1) := by decide +kernel
theorem dX7_dearest_67 : decode cX7_dearest 67 = .ok (.iadd, 1) := by decide +kernel
theorem dX7_dearest_68 : decode cX7_dearest 68 = .ok (.laload, 1) := by decide +kernel
theorem dX7_dearest_69 : decode cX7_dearest 69 = .ok (.aload_n 0, 1) := by decide +kernel
theorem dX7_dearest_70 : decode cX7_dearest 70 = .ok (.getfield 138, 3) := by decide +kernel
theorem dX7_dearest_73 : decode cX7_dearest 73 = .ok (.i2l, 1) := by decide +kernel
theorem dX7_dearest_74 : decode cX7_dearest 74 = .ok (.lcmp, 1) := by decide +kernel
theorem dX7_dearest_75 : decode cX7_dearest 75 = .ok (.ifCond .gt 7, 3) := by decide +kernel
theorem dX7_dearest_78 : decode cX7_dearest 78 = .ok (.iconst 1, 1) := by decide +kernel
theorem dX7_dearest_79 : decode cX7_dearest 79 = .ok (.goto 4, 3) := by decide +kernel
theorem dX7_dearest_82 : decode cX7_dearest 82 = .ok (.iconst 0, 1) := by decide +kernel
theorem dX7_dearest_83 : decode cX7_dearest 83 = .ok (.istore 4, 2) := by decide +kernel
theorem dX7_dearest_85 : decode cX7_dearest 85 = .ok (.iload 4, 2) := by decide +kernel
theorem dX7_dearest_87 : decode cX7_dearest 87 = .ok (.ifCond .eq 34, 3) := by decide +kernel
theorem dX7_dearest_90 : decode cX7_dearest 90 = .ok (.iload_n 1, 1) := by decide +kernel
theorem dX7_dearest_91 : decode cX7_dearest 91 = .ok (.ifCond .eq 26, 3) := by decide +kernel
theorem dX7_dearest_94 : decode cX7_dearest 94 = .ok (.aload_n 0, 1) := by decide +kernel
theorem dX7_dearest_95 : decode cX7_dearest 95 = .ok (.getfield 29, 3) := by decide +kernel
theorem dX7_dearest_98 : decode cX7_dearest 98 = .ok (.iload_n 3, 1) := by decide +kernel
theorem dX7_dearest_99 : decode cX7_dearest 99 = .ok (.iconst 2, 1) := by decide +kernel
theorem dX7_dearest_100 : decode cX7_dearest 100 = .ok (.iadd, 1) := by decide +kernel
theorem dX7_dearest_101 : decode cX7_dearest 101 = .ok (.laload, 1) := by decide +kernel
theorem dX7_dearest_102 : decode cX7_dearest 102 = .ok (.aload_n 0, 1) := by decide +kernel
theorem dX7_dearest_103 : decode cX7_dearest 103 = .ok (.getfield 29, 3) := by decide +kernel
theorem dX7_dearest_106 : decode cX7_dearest 106 = .ok (.bipush 17, 2) := by decide +kernel
theorem dX7_dearest_108 : decode cX7_dearest 108 = .ok (.iload_n 1, 1) := by decide +kernel
theorem dX7_dearest_109 : decode cX7_dearest 109 = .ok (.imul, 1) := by decide +kernel
theorem dX7_dearest_110 : decode cX7_dearest 110 = .ok (.iconst 2, 1) := by decide +kernel
theorem dX7_dearest_111 : decode cX7_dearest 111 = .ok (.iadd, 1) := by decide +kernel
theorem dX7_dearest_112 : decode cX7_dearest 112 = .ok (.laload, 1) := by decide +kernel
theorem dX7_dearest_113 : decode cX7_dearest 113 = .ok (.lcmp, 1) := by decide +kernel
theorem dX7_dearest_114 : decode cX7_dearest 114 = .ok (.ifCond .le 7, 3) := by decide +kernel
theorem dX7_dearest_117 : decode cX7_dearest 117 = .ok (.iload_n 2, 1) := by decide +kernel
theorem dX7_dearest_118 : decode cX7_dearest 118 = .ok (.goto 4, 3) := by decide +kernel
theorem dX7_dearest_121 : decode cX7_dearest 121 = .ok (.iload_n 1, 1) := by decide +kernel
theorem dX7_dearest_122 : decode cX7_dearest 122 = .ok (.istore_n 1, 1) := by decide +kernel
theorem dX7_dearest_123 : decode cX7_dearest 123 = .ok (.iinc 2 1, 3) := by decide +kernel
theorem dX7_dearest_126 : decode cX7_dearest 126 = .ok (.goto (-122), 3) := by decide +kernel
theorem dX7_dearest_129 : decode cX7_dearest 129 = .ok (.iload_n 1, 1) := by decide +kernel
theorem dX7_dearest_130 : decode cX7_dearest 130 = .ok (.ireturn, 1) := by decide +kernel
set_option maxRecDepth 20000 in
theorem ggX7_does_X7_payer : GoodIn wsX7_does wsX7_payer := goodIn_r _ [10] (by decide +kernel) (by decide +kernel)
set_option maxRecDepth 20000 in
theorem gX7_does_X7_payer : GoodIn wsX7_does (va_wsS RX7 109 yX7_payer wsX7_payer) := goodIn_app (goodIn_of _ (by decide +kernel)) ggX7_does_X7_payer
set_option maxRecDepth 20000 in
theorem ggX7_does_X7_comes : GoodIn wsX7_does wsX7_comes := goodIn_r _ [14, 15, 16, 22, 23, 24, 25, 26, 27, 28, 29, 30, 31, 32, 33, 34, 35, 36, 37, 38, 39, 40, 41, 42] (by decide +kernel) (by decide +kernel)
set_option maxRecDepth 20000 in
theorem gX7_does_X7_comes : GoodIn wsX7_does (wsV RX7 127 RX7 yX7_comes wsX7_comes) := goodIn_app (goodIn_of _ (by decide +kernel)) ggX7_does_X7_comes
set_option maxRecDepth 20000 in
theorem ggX7_does_X7_takeOut : GoodIn wsX7_does wsX7_takeOut := goodIn_r _ [20, 21, 1, 22, 23, 24, 25, 26, 27, 28, 29, 30, 31, 32, 33, 34, 35, 36, 37, 38, 39, 40, 41, 42] (by decide +kernel) (by decide +kernel)
set_option maxRecDepth 20000 in
theorem gX7_does_X7_takeOut : GoodIn wsX7_does (wsV RX7 131 RX7 yX7_takeOut wsX7_takeOut) := goodIn_app (goodIn_of _ (by decide +kernel)) ggX7_does_X7_takeOut
theorem dX7_does_0 : decode cX7_does 0 = .ok (.bipush 17, 2) := by decide +kernel
theorem dX7_does_2 : decode cX7_does 2 = .ok (.iload_n 1, 1) := by decide +kernel
theorem dX7_does_3 : decode cX7_does 3 = .ok (.imul, 1) := by decide +kernel
theorem dX7_does_4 : decode cX7_does 4 = .ok (.istore_n 2, 1) := by decide +kernel
theorem dX7_does_5 : decode cX7_does 5 = .ok (.aload_n 0, 1) := by decide +kernel
theorem dX7_does_6 : decode cX7_does 6 = .ok (.getfield 29, 3) := by decide +kernel
theorem dX7_does_9 : decode cX7_does 9 = .ok (.iload_n 2, 1) := by decide +kernel
theorem dX7_does_10 : decode cX7_does 10 = .ok (.iconst 0, 1) := by decide +kernel
theorem dX7_does_11 : decode cX7_does 11 = .ok (.iadd, 1) := by decide +kernel
theorem dX7_does_12 : decode cX7_does 12 = .ok (.laload, 1) := by decide +kernel
theorem dX7_does_13 : decode cX7_does 13 = .ok (.l2i, 1) := by decide +kernel
theorem dX7_does_14 : decode cX7_does 14 = .ok (.istore_n 3, 1) := by decide +kernel
theorem dX7_does_15 : decode cX7_does 15 = .ok (.iload_n 3, 1) := by decide +kernel
theorem dX7_does_16 : decode cX7_does 16 = .ok (.i2l, 1) := by decide +kernel
theorem dX7_does_17 : decode cX7_does 17 = .ok (.aload_n 0, 1) := by decide +kernel
theorem dX7_does_18 : decode cX7_does 18 = .ok (.getfield 29, 3) := by decide +kernel
theorem dX7_does_21 : decode cX7_does 21 = .ok (.iload_n 2, 1) := by decide +kernel
theorem dX7_does_22 : decode cX7_does 22 = .ok (.bipush 6, 2) := by decide +kernel
theorem dX7_does_24 : decode cX7_does 24 = .ok (.iadd, 1) := by decide +kernel
theorem dX7_does_25 : decode cX7_does 25 = .ok (.laload, 1) := by decide +kernel
theorem dX7_does_26 : decode cX7_does 26 = .ok (.invokestatic 109, 3) := by decide +kernel
theorem dX7_does_29 : decode cX7_does 29 = .ok (.istore 4, 2) := by decide +kernel
theorem dX7_does_31 : decode cX7_does 31 = .ok (.aload_n 0, 1) := by decide +kernel
theorem dX7_does_32 : decode cX7_does 32 = .ok (.getfield 29, 3) := by decide +kernel
theorem dX7_does_35 : decode cX7_does 35 = .ok (.iload_n 2, 1) := by decide +kernel
theorem dX7_does_36 : decode cX7_does 36 = .ok (.bipush 7, 2) := by decide +kernel
theorem dX7_does_38 : decode cX7_does 38 = .ok (.iadd, 1) := by decide +kernel
theorem dX7_does_39 : decode cX7_does 39 = .ok (.laload, 1) := by decide +kernel
theorem dX7_does_40 : decode cX7_does 40 = .ok (.l2i, 1) := by decide +kernel
theorem dX7_does_41 : decode cX7_does 41 = .ok (.istore 5, 2) := by decide +kernel
theorem dX7_does_43 : decode cX7_does 43 = .ok (.aload_n 0, 1) := by decide +kernel
theorem dX7_does_44 : decode cX7_does 44 = .ok (.getfield 29, 3) := by decide +kernel
theorem dX7_does_47 : decode cX7_does 47 = .ok (.iload_n 2, 1) := by decide +kernel
theorem dX7_does_48 : decode cX7_does 48 = .ok (.iconst 2, 1) := by decide +kernel
theorem dX7_does_49 : decode cX7_does 49 = .ok (.iadd, 1) := by decide +kernel
theorem dX7_does_50 : decode cX7_does 50 = .ok (.laload, 1) := by decide +kernel
theorem dX7_does_51 : decode cX7_does 51 = .ok (.lstore 6, 2) := by decide +kernel
theorem dX7_does_53 : decode cX7_does 53 = .ok (.lload 6, 2) := by decide +kernel
theorem dX7_does_55 : decode cX7_does 55 = .ok (.aload_n 0, 1) := by decide +kernel
theorem dX7_does_56 : decode cX7_does 56 = .ok (.getfield 29, 3) := by decide +kernel
theorem dX7_does_59 : decode cX7_does 59 = .ok (.iload_n 2, 1) := by decide +kernel
theorem dX7_does_60 : decode cX7_does 60 = .ok (.iconst 3, 1) := by decide +kernel
theorem dX7_does_61 : decode cX7_does 61 = .ok (.iadd, 1) := by decide +kernel
theorem dX7_does_62 : decode cX7_does 62 = .ok (.laload, 1) := by decide +kernel
theorem dX7_does_63 : decode cX7_does 63 = .ok (.lmul, 1) := by decide +kernel
theorem dX7_does_64 : decode cX7_does 64 = .ok (.lstore 8, 2) := by decide +kernel
theorem dX7_does_66 : decode cX7_does 66 = .ok (.aload_n 0, 1) := by decide +kernel
theorem dX7_does_67 : decode cX7_does 67 = .ok (.getfield 7, 3) := by decide +kernel
theorem dX7_does_70 : decode cX7_does 70 = .ok (.iload 4, 2) := by decide +kernel
theorem dX7_does_72 : decode cX7_does 72 = .ok (.laload, 1) := by decide +kernel
theorem dX7_does_73 : decode cX7_does 73 = .ok (.lload 8, 2) := by decide +kernel
theorem dX7_does_75 : decode cX7_does 75 = .ok (.lcmp, 1) := by decide +kernel
theorem dX7_does_76 : decode cX7_does 76 = .ok (.ifCond .ge 18, 3) := by decide +kernel
theorem dX7_does_79 : decode cX7_does 79 = .ok (.aload_n 0, 1) := by decide +kernel
theorem dX7_does_80 : decode cX7_does 80 = .ok (.iload 5, 2) := by decide +kernel
theorem dX7_does_82 : decode cX7_does 82 = .ok (.iconst 5, 1) := by decide +kernel
theorem dX7_does_83 : decode cX7_does 83 = .ok (.iconst 0, 1) := by decide +kernel
theorem dX7_does_84 : decode cX7_does 84 = .ok (.invokevirtual 127, 3) := by decide +kernel
theorem dX7_does_87 : decode cX7_does 87 = .ok (.aload_n 0, 1) := by decide +kernel
theorem dX7_does_88 : decode cX7_does 88 = .ok (.iload_n 1, 1) := by decide +kernel
theorem dX7_does_89 : decode cX7_does 89 = .ok (.invokevirtual 131, 3) := by decide +kernel
theorem dX7_does_92 : decode cX7_does 92 = .ok (.iconst 0, 1) := by decide +kernel
theorem dX7_does_93 : decode cX7_does 93 = .ok (.ireturn, 1) := by decide +kernel
theorem dX7_does_94 : decode cX7_does 94 = .ok (.aload_n 0, 1) := by decide +kernel
theorem dX7_does_95 : decode cX7_does 95 = .ok (.getfield 7, 3) := by decide +kernel
theorem dX7_does_98 : decode cX7_does 98 = .ok (.iload 4, 2) := by decide +kernel
theorem dX7_does_100 : decode cX7_does 100 = .ok (.dup2, 1) := by decide +kernel
theorem dX7_does_101 : decode cX7_does 101 = .ok (.laload, 1) := by decide +kernel
theorem dX7_does_102 : decode cX7_does 102 = .ok (.lload 8, 2) := by decide +kernel
theorem dX7_does_104 : decode cX7_does 104 = .ok (.lsub, 1) := by decide +kernel
theorem dX7_does_105 : decode cX7_does 105 = .ok (.lastore, 1) := by decide +kernel
theorem dX7_does_106 : decode cX7_does 106 = .ok (.aload_n 0, 1) := by decide +kernel
theorem dX7_does_107 : decode cX7_does 107 = .ok (.getfield 13, 3) := by decide +kernel
theorem dX7_does_110 : decode cX7_does 110 = .ok (.iload_n 3, 1) := by decide +kernel
theorem dX7_does_111 : decode cX7_does 111 = .ok (.dup2, 1) := by decide +kernel
theorem dX7_does_112 : decode cX7_does 112 = .ok (.iaload, 1) := by decide +kernel
theorem dX7_does_113 : decode cX7_does 113 = .ok (.iconst 1, 1) := by decide +kernel
theorem dX7_does_114 : decode cX7_does 114 = .ok (.iadd, 1) := by decide +kernel
theorem dX7_does_115 : decode cX7_does 115 = .ok (.iastore, 1) := by decide +kernel
theorem dX7_does_116 : decode cX7_does 116 = .ok (.iconst 0, 1) := by decide +kernel
theorem dX7_does_117 : decode cX7_does 117 = .ok (.istore 10, 2) := by decide +kernel
theorem dX7_does_119 : decode cX7_does 119 = .ok (.iload 10, 2) := by decide +kernel
theorem dX7_does_121 : decode cX7_does 121 = .ok (.bipush 12, 2) := by decide +kernel
theorem dX7_does_123 : decode cX7_does 123 = .ok (.if_icmp .ge 23, 3) := by decide +kernel
theorem dX7_does_126 : decode cX7_does 126 = .ok (.aload_n 0, 1) := by decide +kernel
theorem dX7_does_127 : decode cX7_does 127 = .ok (.getfield 42, 3) := by decide +kernel
theorem dX7_does_130 : decode cX7_does 130 = .ok (.iload 10, 2) := by decide +kernel
theorem dX7_does_132 : decode cX7_does 132 = .ok (.aload_n 0, 1) := by decide +kernel
theorem dX7_does_133 : decode cX7_does 133 = .ok (.getfield 7, 3) := by decide +kernel
theorem dX7_does_136 : decode cX7_does 136 = .ok (.iload 10, 2) := by decide +kernel
theorem dX7_does_138 : decode cX7_does 138 = .ok (.laload, 1) := by decide +kernel
theorem dX7_does_139 : decode cX7_does 139 = .ok (.lastore, 1) := by decide +kernel
theorem dX7_does_140 : decode cX7_does 140 = .ok (.iinc 10 1, 3) := by decide +kernel
theorem dX7_does_143 : decode cX7_does 143 = .ok (.goto (-24), 3) := by decide +kernel
theorem dX7_does_146 : decode cX7_does 146 = .ok (.iconst 0, 1) := by decide +kernel
theorem dX7_does_147 : decode cX7_does 147 = .ok (.istore 10, 2) := by decide +kernel
theorem dX7_does_149 : decode cX7_does 149 = .ok (.iconst 0, 1) := by decide +kernel
theorem dX7_does_150 : decode cX7_does 150 = .ok (.istore 11, 2) := by decide +kernel
theorem dX7_does_152 : decode cX7_does 152 = .ok (.iconst 0, 1) := by decide +kernel
theorem dX7_does_153 : decode cX7_does 153 = .ok (.istore 12, 2) := by decide +kernel
theorem dX7_does_155 : decode cX7_does 155 = .ok (.iload 12, 2) := by decide +kernel
theorem dX7_does_157 : decode cX7_does 157 = .ok (.i2l, 1) := by decide +kernel
theorem dX7_does_158 : decode cX7_does 158 = .ok (.aload_n 0, 1) := by decide +kernel
theorem dX7_does_159 : decode cX7_does 159 = .ok (.getfield 29, 3) := by decide +kernel
theorem dX7_does_162 : decode cX7_does 162 = .ok (.iload_n 2, 1) := by decide +kernel
theorem dX7_does_163 : decode cX7_does 163 = .ok (.bipush 8, 2) := by decide +kernel
theorem dX7_does_165 : decode cX7_does 165 = .ok (.iadd, 1) := by decide +kernel
theorem dX7_does_166 : decode cX7_does 166 = .ok (.laload, 1) := by decide +kernel
theorem dX7_does_167 : decode cX7_does 167 = .ok (.lcmp, 1) := by decide +kernel
theorem dX7_does_168 : decode cX7_does 168 = .ok (.ifCond .ge 127, 3) := by decide +kernel
theorem dX7_does_171 : decode cX7_does 171 = .ok (.iload 11, 2) := by decide +kernel
theorem dX7_does_173 : decode cX7_does 173 = .ok (.ifCond .ne 122, 3) := by decide +kernel
theorem dX7_does_176 : decode cX7_does 176 = .ok (.aload_n 0, 1) := by decide +kernel
theorem dX7_does_177 : decode cX7_does 177 = .ok (.getfield 29, 3) := by decide +kernel
theorem dX7_does_180 : decode cX7_does 180 = .ok (.iload_n 2, 1) := by decide +kernel
theorem dX7_does_181 : decode cX7_does 181 = .ok (.bipush 9, 2) := by decide +kernel
theorem dX7_does_183 : decode cX7_does 183 = .ok (.iadd, 1) := by decide +kernel
theorem dX7_does_184 : decode cX7_does 184 = .ok (.iconst 2, 1) := by decide +kernel
theorem dX7_does_185 : decode cX7_does 185 = .ok (.iload 12, 2) := by decide +kernel
theorem dX7_does_187 : decode cX7_does 187 = .ok (.imul, 1) := by decide +kernel
theorem dX7_does_188 : decode cX7_does 188 = .ok (.iadd, 1) := by decide +kernel
theorem dX7_does_189 : decode cX7_does 189 = .ok (.laload, 1) := by decide +kernel
theorem dX7_does_190 : decode cX7_does 190 = .ok (.l2i, 1) := by decide +kernel
theorem dX7_does_191 : decode cX7_does 191 = .ok (.istore 13, 2) := by decide +kernel
theorem dX7_does_193 : decode cX7_does 193 = .ok (.aload_n 0, 1) := by decide +kernel
theorem dX7_does_194 : decode cX7_does 194 = .ok (.getfield 29, 3) := by decide +kernel
theorem dX7_does_197 : decode cX7_does 197 = .ok (.iload_n 2, 1) := by decide +kernel
theorem dX7_does_198 : decode cX7_does 198 = .ok (.bipush 10, 2) := by decide +kernel
theorem dX7_does_200 : decode cX7_does 200 = .ok (.iadd, 1) := by decide +kernel
theorem dX7_does_201 : decode cX7_does 201 = .ok (.iconst 2, 1) := by decide +kernel
theorem dX7_does_202 : decode cX7_does 202 = .ok (.iload 12, 2) := by decide +kernel
theorem dX7_does_204 : decode cX7_does 204 = .ok (.imul, 1) := by decide +kernel
theorem dX7_does_205 : decode cX7_does 205 = .ok (.iadd, 1) := by decide +kernel
theorem dX7_does_206 : decode cX7_does 206 = .ok (.laload, 1) := by decide +kernel
theorem dX7_does_207 : decode cX7_does 207 = .ok (.lstore 14, 2) := by decide +kernel
theorem dX7_does_209 : decode cX7_does 209 = .ok (.iload 10, 2) := by decide +kernel
theorem dX7_does_211 : decode cX7_does 211 = .ok (.bipush 10, 2) := by decide +kernel
theorem dX7_does_213 : decode cX7_does 213 = .ok (.iadd, 1) := by decide +kernel
theorem dX7_does_214 : decode cX7_does 214 = .ok (.i2l, 1) := by decide +kernel
theorem dX7_does_215 : decode cX7_does 215 = .ok (.aload_n 0, 1) := by decide +kernel
theorem dX7_does_216 : decode cX7_does 216 = .ok (.getfield 29, 3) := by decide +kernel
theorem dX7_does_219 : decode cX7_does 219 = .ok (.iload_n 2, 1) := by decide +kernel
theorem dX7_does_220 : decode cX7_does 220 = .ok (.iconst 3, 1) := by decide +kernel
theorem dX7_does_221 : decode cX7_does 221 = .ok (.iadd, 1) := by decide +kernel
theorem dX7_does_222 : decode cX7_does 222 = .ok (.laload, 1) := by decide +kernel
theorem dX7_does_223 : decode cX7_does 223 = .ok (.lcmp, 1) := by decide +kernel
theorem dX7_does_224 : decode cX7_does 224 = .ok (.ifCond .le 7, 3) := by decide +kernel
theorem dX7_does_227 : decode cX7_does 227 = .ok (.iconst 1, 1) := by decide +kernel
theorem dX7_does_228 : decode cX7_does 228 = .ok (.goto 4, 3) := by decide +kernel
theorem dX7_does_231 : decode cX7_does 231 = .ok (.iconst 0, 1) := by decide +kernel
theorem dX7_does_232 : decode cX7_does 232 = .ok (.istore 11, 2) := by decide +kernel
theorem dX7_does_234 : decode cX7_does 234 = .ok (.iload 11, 2) := by decide +kernel
theorem dX7_does_236 : decode cX7_does 236 = .ok (.ifCond .ne 25, 3) := by decide +kernel
theorem dX7_does_239 : decode cX7_does 239 = .ok (.iinc 10 10, 3) := by decide +kernel
theorem dX7_does_242 : decode cX7_does 242 = .ok (.aload_n 0, 1) := by decide +kernel
theorem dX7_does_243 : decode cX7_does 243 = .ok (.getfield 7, 3) := by decide +kernel
theorem dX7_does_246 : decode cX7_does 246 = .ok (.iload_n 3, 1) := by decide +kernel
theorem dX7_does_247 : decode cX7_does 247 = .ok (.laload, 1) := by decide +kernel
theorem dX7_does_248 : decode cX7_does 248 = .ok (.lload 14, 2) := by decide +kernel
theorem dX7_does_250 : decode cX7_does 250 = .ok (.lcmp, 1) := by decide +kernel
theorem dX7_does_251 : decode cX7_does 251 = .ok (.ifCond .ge 7, 3) := by decide +kernel
theorem dX7_does_254 : decode cX7_does 254 = .ok (.iconst 1, 1) := by decide +kernel
theorem dX7_does_255 : decode cX7_does 255 = .ok (.goto 4, 3) := by decide +kernel
theorem dX7_does_258 : decode cX7_does 258 = .ok (.iconst 0, 1) := by decide +kernel
theorem dX7_does_259 : decode cX7_does 259 = .ok (.istore 11, 2) := by decide +kernel
theorem dX7_does_261 : decode cX7_does 261 = .ok (.iload 11, 2) := by decide +kernel
theorem dX7_does_263 : decode cX7_does 263 = .ok (.ifCond .ne 26, 3) := by decide +kernel
theorem dX7_does_266 : decode cX7_does 266 = .ok (.aload_n 0, 1) := by decide +kernel
theorem dX7_does_267 : decode cX7_does 267 = .ok (.getfield 7, 3) := by decide +kernel
theorem dX7_does_270 : decode cX7_does 270 = .ok (.iload_n 3, 1) := by decide +kernel
theorem dX7_does_271 : decode cX7_does 271 = .ok (.dup2, 1) := by decide +kernel
theorem dX7_does_272 : decode cX7_does 272 = .ok (.laload, 1) := by decide +kernel
theorem dX7_does_273 : decode cX7_does 273 = .ok (.lload 14, 2) := by decide +kernel
theorem dX7_does_275 : decode cX7_does 275 = .ok (.lsub, 1) := by decide +kernel
theorem dX7_does_276 : decode cX7_does 276 = .ok (.lastore, 1) := by decide +kernel
theorem dX7_does_277 : decode cX7_does 277 = .ok (.aload_n 0, 1) := by decide +kernel
theorem dX7_does_278 : decode cX7_does 278 = .ok (.getfield 7, 3) := by decide +kernel
theorem dX7_does_281 : decode cX7_does 281 = .ok (.iload 13, 2) := by decide +kernel
theorem dX7_does_283 : decode cX7_does 283 = .ok (.dup2, 1) := by decide +kernel
theorem dX7_does_284 : decode cX7_does 284 = .ok (.laload, 1) := by decide +kernel
theorem dX7_does_285 : decode cX7_does 285 = .ok (.lload 14, 2) := by decide +kernel
theorem dX7_does_287 : decode cX7_does 287 = .ok (.ladd, 1) := by decide +kernel
theorem dX7_does_288 : decode cX7_does 288 = .ok (.lastore, 1) := by decide +kernel
theorem dX7_does_289 : decode cX7_does 289 = .ok (.iinc 12 1, 3) := by decide +kernel
theorem dX7_does_292 : decode cX7_does 292 = .ok (.goto (-137), 3) := by decide +kernel
theorem dX7_does_295 : decode cX7_does 295 = .ok (.iconst 0, 1) := by decide +kernel
theorem dX7_does_296 : decode cX7_does 296 = .ok (.istore 12, 2) := by decide +kernel
theorem dX7_does_298 : decode cX7_does 298 = .ok (.iload 12, 2) := by decide +kernel
theorem dX7_does_300 : decode cX7_does 300 = .ok (.bipush 12, 2) := by decide +kernel
theorem dX7_does_302 : decode cX7_does 302 = .ok (.if_icmp .ge 28, 3) := by decide +kernel
theorem dX7_does_305 : decode cX7_does 305 = .ok (.iload 11, 2) := by decide +kernel
theorem dX7_does_307 : decode cX7_does 307 = .ok (.ifCond .eq 23, 3) := by decide +kernel
theorem dX7_does_310 : decode cX7_does 310 = .ok (.aload_n 0, 1) := by decide +kernel
theorem dX7_does_311 : decode cX7_does 311 = .ok (.getfield 7, 3) := by decide +kernel
theorem dX7_does_314 : decode cX7_does 314 = .ok (.iload 12, 2) := by decide +kernel
theorem dX7_does_316 : decode cX7_does 316 = .ok (.aload_n 0, 1) := by decide +kernel
theorem dX7_does_317 : decode cX7_does 317 = .ok (.getfield 42, 3) := by decide +kernel
theorem dX7_does_320 : decode cX7_does 320 = .ok (.iload 12, 2) := by decide +kernel
theorem dX7_does_322 : decode cX7_does 322 = .ok (.laload, 1) := by decide +kernel
theorem dX7_does_323 : decode cX7_does 323 = .ok (.lastore, 1) := by decide +kernel
theorem dX7_does_324 : decode cX7_does 324 = .ok (.iinc 12 1, 3) := by decide +kernel
theorem dX7_does_327 : decode cX7_does 327 = .ok (.goto (-29), 3) := by decide +kernel
theorem dX7_does_330 : decode cX7_does 330 = .ok (.aload_n 0, 1) := by decide +kernel
theorem dX7_does_331 : decode cX7_does 331 = .ok (.getfield 7, 3) := by decide +kernel
theorem dX7_does_334 : decode cX7_does 334 = .ok (.iload 4, 2) := by decide +kernel
theorem dX7_does_336 : decode cX7_does 336 = .ok (.dup2, 1) := by decide +kernel
theorem dX7_does_337 : decode cX7_does 337 = .ok (.laload, 1) := by decide +kernel
theorem dX7_does_338 : decode cX7_does 338 = .ok (.lload 8, 2) := by decide +kernel
theorem dX7_does_340 : decode cX7_does 340 = .ok (.lload 6, 2) := by decide +kernel
theorem dX7_does_342 : decode cX7_does 342 = .ok (.iload 10, 2) := by decide +kernel
theorem dX7_does_344 : decode cX7_does 344 = .ok (.i2l, 1) := by decide +kernel
theorem dX7_does_345 : decode cX7_does 345 = .ok (.lmul, 1) := by decide +kernel
theorem dX7_does_346 : decode cX7_does 346 = .ok (.lsub, 1) := by decide +kernel
theorem dX7_does_347 : decode cX7_does 347 = .ok (.ladd, 1) := by decide +kernel
theorem dX7_does_348 : decode cX7_does 348 = .ok (.lastore, 1) := by decide +kernel
theorem dX7_does_349 : decode cX7_does 349 = .ok (.aload_n 0, 1) := by decide +kernel
theorem dX7_does_350 : decode cX7_does 350 = .ok (.dup, 1) := by decide +kernel
theorem dX7_does_351 : decode cX7_does 351 = .ok (.getfield 138, 3) := by decide +kernel
theorem dX7_does_354 : decode cX7_does 354 = .ok (.iload 10, 2) := by decide +kernel
theorem dX7_does_356 : decode cX7_does 356 = .ok (.isub, 1) := by decide +kernel
theorem dX7_does_357 : decode cX7_does 357 = .ok (.putfield 138, 3) := by decide +kernel
theorem dX7_does_360 : decode cX7_does 360 = .ok (.aload_n 0, 1) := by decide +kernel
theorem dX7_does_361 : decode cX7_does 361 = .ok (.dup, 1) := by decide +kernel
theorem dX7_does_362 : decode cX7_does 362 = .ok (.getfield 141, 3) := by decide +kernel
theorem dX7_does_365 : decode cX7_does 365 = .ok (.lload 6, 2) := by decide +kernel
theorem dX7_does_367 : decode cX7_does 367 = .ok (.iload 10, 2) := by decide +kernel
theorem dX7_does_369 : decode cX7_does 369 = .ok (.i2l, 1) := by decide +kernel
theorem dX7_does_370 : decode cX7_does 370 = .ok (.lmul, 1) := by decide +kernel
theorem dX7_does_371 : decode cX7_does 371 = .ok (.ladd, 1) := by decide +kernel
theorem dX7_does_372 : decode cX7_does 372 = .ok (.putfield 141, 3) := by decide +kernel
theorem dX7_does_375 : decode cX7_does 375 = .ok (.aload_n 0, 1) := by decide +kernel
theorem dX7_does_376 : decode cX7_does 376 = .ok (.iload 5, 2) := by decide +kernel
theorem dX7_does_378 : decode cX7_does 378 = .ok (.iload 11, 2) := by decide +kernel
theorem dX7_does_380 : decode cX7_does 380 = .ok (.ifCond .eq 7, 3) := by decide +kernel
theorem dX7_does_383 : decode cX7_does 383 = .ok (.iconst 1, 1) := by decide +kernel
theorem dX7_does_384 : decode cX7_does 384 = .ok (.goto 4, 3) := by decide +kernel
theorem dX7_does_387 : decode cX7_does 387 = .ok (.iconst 0, 1) := by decide +kernel
theorem dX7_does_388 : decode cX7_does 388 = .ok (.iload 10, 2) := by decide +kernel
theorem dX7_does_390 : decode cX7_does 390 = .ok (.invokevirtual 127, 3) := by decide +kernel
theorem dX7_does_393 : decode cX7_does 393 = .ok (.aload_n 0, 1) := by decide +kernel
theorem dX7_does_394 : decode cX7_does 394 = .ok (.iload_n 1, 1) := by decide +kernel
theorem dX7_does_395 : decode cX7_does 395 = .ok (.invokevirtual 131, 3) := by decide +kernel
theorem dX7_does_398 : decode cX7_does 398 = .ok (.iload 11, 2) := by decide +kernel
theorem dX7_does_400 : decode cX7_does 400 = .ok (.ifCond .ne 7, 3) := by decide +kernel
theorem dX7_does_403 : decode cX7_does 403 = .ok (.iconst 1, 1) := by decide +kernel
theorem dX7_does_404 : decode cX7_does 404 = .ok (.goto 4, 3) := by decide +kernel
theorem dX7_does_407 : decode cX7_does 407 = .ok (.iconst 0, 1) := by decide +kernel
theorem dX7_does_408 : decode cX7_does 408 = .ok (.ireturn, 1) := by decide +kernel
set_option maxRecDepth 20000 in
theorem ggX7_block_X7_in : GoodIn wsX7_block wsX7_in := goodIn_r _ [7] (by decide +kernel) (by decide +kernel)
set_option maxRecDepth 20000 in
theorem gX7_block_X7_in : GoodIn wsX7_block (va_wsS RX7 48 yX7_in wsX7_in) := goodIn_app (goodIn_of _ (by decide +kernel)) ggX7_block_X7_in
set_option maxRecDepth 20000 in
theorem ggX7_block_X7_ends : GoodIn wsX7_block wsX7_ends := goodIn_r _ [11, 12, 13, 2, 14, 15, 16, 6, 17, 18, 19, 20, 21, 22, 23, 39, 40, 41, 42, 43, 44, 45, 46, 47, 48, 49, 50, 51, 52, 53, 54, 55, 56, 57, 58, 59] (by decide +kernel) (by decide +kernel)
set_option maxRecDepth 20000 in
theorem gX7_block_X7_ends : GoodIn wsX7_block (wsV RX7 147 RX7 yX7_ends wsX7_ends) := goodIn_app (goodIn_of _ (by decide +kernel)) ggX7_block_X7_ends
set_option maxRecDepth 20000 in
theorem ggX7_block_X7_dearest : GoodIn wsX7_block wsX7_dearest := goodIn_r _ [27, 12, 13, 28, 2, 3, 39, 40, 41, 42, 43, 44, 45, 46, 47, 48, 49, 50, 51, 52, 53, 54, 55, 56, 57, 58, 59] (by decide +kernel) (by decide +kernel)
set_option maxRecDepth 20000 in
theorem gX7_block_X7_dearest : GoodIn wsX7_block (wsV RX7 150 RX7 yX7_dearest wsX7_dearest) := goodIn_app (goodIn_of _ (by decide +kernel)) ggX7_block_X7_dearest
set_option maxRecDepth 20000 in
theorem ggX7_block_X7_does : GoodIn wsX7_block wsX7_does := goodIn_r _ [32, 13, 33, 28, 34, 3, 35, 36, 37, 6, 38, 14, 15, 16, 17, 18, 19, 20, 21, 22, 23, 12, 39, 40, 41, 42, 43, 44, 45, 46, 47, 48, 49, 50, 51, 52, 53, 54, 55, 56, 57, 58, 59] (by decide +kernel) (by decide +kernel)
set_option maxRecDepth 20000 in
theorem gX7_block_X7_does : GoodIn wsX7_block (wsV RX7 153 RX7 yX7_does wsX7_does) := goodIn_app (goodIn_of _ (by decide +kernel)) ggX7_block_X7_does
theorem dX7_block_0 : decode cX7_block 0 = .ok (.iload_n 1, 1) := by decide +kernel
theorem dX7_block_1 : decode cX7_block 1 = .ok (.i2l, 1) := by decide +kernel
theorem dX7_block_2 : decode cX7_block 2 = .ok (.lconst 0, 1) := by decide +kernel
theorem dX7_block_3 : decode cX7_block 3 = .ok (.ldc2_w 145, 3) := by decide +kernel
theorem dX7_block_6 : decode cX7_block 6 = .ok (.invokestatic 48, 3) := by decide +kernel
theorem dX7_block_9 : decode cX7_block 9 = .ok (.ifCond .ne 5, 3) := by decide +kernel
theorem dX7_block_12 : decode cX7_block 12 = .ok (.iconst (-1), 1) := by decide +kernel
theorem dX7_block_13 : decode cX7_block 13 = .ok (.ireturn, 1) := by decide +kernel
theorem dX7_block_14 : decode cX7_block 14 = .ok (.aload_n 0, 1) := by decide +kernel
theorem dX7_block_15 : decode cX7_block 15 = .ok (.dup, 1) := by decide +kernel
theorem dX7_block_16 : decode cX7_block 16 = .ok (.getfield 103, 3) := by decide +kernel
theorem dX7_block_19 : decode cX7_block 19 = .ok (.iconst 1, 1) := by decide +kernel
theorem dX7_block_20 : decode cX7_block 20 = .ok (.iadd, 1) := by decide +kernel
theorem dX7_block_21 : decode cX7_block 21 = .ok (.putfield 103, 3) := by decide +kernel
theorem dX7_block_24 : decode cX7_block 24 = .ok (.aload_n 0, 1) := by decide +kernel
theorem dX7_block_25 : decode cX7_block 25 = .ok (.invokevirtual 147, 3) := by decide +kernel
theorem dX7_block_28 : decode cX7_block 28 = .ok (.aload_n 0, 1) := by decide +kernel
theorem dX7_block_29 : decode cX7_block 29 = .ok (.iload_n 1, 1) := by decide +kernel
theorem dX7_block_30 : decode cX7_block 30 = .ok (.putfield 138, 3) := by decide +kernel
theorem dX7_block_33 : decode cX7_block 33 = .ok (.iconst 0, 1) := by decide +kernel
theorem dX7_block_34 : decode cX7_block 34 = .ok (.istore_n 2, 1) := by decide +kernel
theorem dX7_block_35 : decode cX7_block 35 = .ok (.aload_n 0, 1) := by decide +kernel
theorem dX7_block_36 : decode cX7_block 36 = .ok (.invokevirtual 150, 3) := by decide +kernel
theorem dX7_block_39 : decode cX7_block 39 = .ok (.istore_n 3, 1) := by decide +kernel
theorem dX7_block_40 : decode cX7_block 40 = .ok (.iload_n 3, 1) := by decide +kernel
theorem dX7_block_41 : decode cX7_block 41 = .ok (.ifCond .le 27, 3) := by decide +kernel
theorem dX7_block_44 : decode cX7_block 44 = .ok (.iload_n 2, 1) := by decide +kernel
theorem dX7_block_45 : decode cX7_block 45 = .ok (.aload_n 0, 1) := by decide +kernel
theorem dX7_block_46 : decode cX7_block 46 = .ok (.iload_n 3, 1) := by decide +kernel
theorem dX7_block_47 : decode cX7_block 47 = .ok (.invokevirtual 153, 3) := by decide +kernel
theorem dX7_block_50 : decode cX7_block 50 = .ok (.ifCond .eq 7, 3) := by decide +kernel
theorem dX7_block_53 : decode cX7_block 53 = .ok (.iconst 1, 1) := by decide +kernel
theorem dX7_block_54 : decode cX7_block 54 = .ok (.goto 4, 3) := by decide +kernel
theorem dX7_block_57 : decode cX7_block 57 = .ok (.iconst 0, 1) := by decide +kernel
theorem dX7_block_58 : decode cX7_block 58 = .ok (.iadd, 1) := by decide +kernel
theorem dX7_block_59 : decode cX7_block 59 = .ok (.istore_n 2, 1) := by decide +kernel
theorem dX7_block_60 : decode cX7_block 60 = .ok (.aload_n 0, 1) := by decide +kernel
theorem dX7_block_61 : decode cX7_block 61 = .ok (.invokevirtual 150, 3) := by decide +kernel
theorem dX7_block_64 : decode cX7_block 64 = .ok (.istore_n 3, 1) := by decide +kernel
theorem dX7_block_65 : decode cX7_block 65 = .ok (.goto (-25), 3) := by decide +kernel
theorem dX7_block_68 : decode cX7_block 68 = .ok (.iload_n 2, 1) := by decide +kernel
theorem dX7_block_69 : decode cX7_block 69 = .ok (.ireturn, 1) := by decide +kernel
set_option maxRecDepth 20000 in
theorem ggX7_waiting_X7_in : GoodIn wsX7_waiting wsX7_in := goodIn_r _ [7] (by decide +kernel) (by decide +kernel)
set_option maxRecDepth 20000 in
theorem gX7_waiting_X7_in : GoodIn wsX7_waiting (va_wsS RX7 48 yX7_in wsX7_in) := goodIn_app (goodIn_of _ (by decide +kernel)) ggX7_waiting_X7_in
theorem dX7_waiting_0 : decode cX7_waiting 0 = .ok (.iload_n 1, 1) := by decide +kernel
theorem dX7_waiting_1 : decode cX7_waiting 1 = .ok (.i2l, 1) := by decide +kernel
theorem dX7_waiting_2 : decode cX7_waiting 2 = .ok (.lconst 0, 1) := by decide +kernel
theorem dX7_waiting_3 : decode cX7_waiting 3 = .ok (.aload_n 0, 1) := by decide +kernel
theorem dX7_waiting_4 : decode cX7_waiting 4 = .ok (.getfield 100, 3) := by decide +kernel
theorem dX7_waiting_7 : decode cX7_waiting 7 = .ok (.iconst 1, 1) := by decide +kernel
theorem dX7_waiting_8 : decode cX7_waiting 8 = .ok (.isub, 1) := by decide +kernel
theorem dX7_waiting_9 : decode cX7_waiting 9 = .ok (.i2l, 1) := by decide +kernel
theorem dX7_waiting_10 : decode cX7_waiting 10 = .ok (.invokestatic 48, 3) := by decide +kernel
theorem dX7_waiting_13 : decode cX7_waiting 13 = .ok (.ifCond .eq 15, 3) := by decide +kernel
theorem dX7_waiting_16 : decode cX7_waiting 16 = .ok (.iload_n 2, 1) := by decide +kernel
theorem dX7_waiting_17 : decode cX7_waiting 17 = .ok (.i2l, 1) := by decide +kernel
theorem dX7_waiting_18 : decode cX7_waiting 18 = .ok (.lconst 0, 1) := by decide +kernel
theorem dX7_waiting_19 : decode cX7_waiting 19 = .ok (.ldc2_w 156, 3) := by decide +kernel
theorem dX7_waiting_22 : decode cX7_waiting 22 = .ok (.invokestatic 48, 3) := by decide +kernel
theorem dX7_waiting_25 : decode cX7_waiting 25 = .ok (.ifCond .ne 5, 3) := by decide +kernel
theorem dX7_waiting_28 : decode cX7_waiting 28 = .ok (.iconst (-1), 1) := by decide +kernel
theorem dX7_waiting_29 : decode cX7_waiting 29 = .ok (.ireturn, 1) := by decide +kernel
theorem dX7_waiting_30 : decode cX7_waiting 30 = .ok (.aload_n 0, 1) := by decide +kernel
theorem dX7_waiting_31 : decode cX7_waiting 31 = .ok (.getfield 29, 3) := by decide +kernel
theorem dX7_waiting_34 : decode cX7_waiting 34 = .ok (.bipush 17, 2) := by decide +kernel
theorem dX7_waiting_36 : decode cX7_waiting 36 = .ok (.iload_n 1, 1) := by decide +kernel
theorem dX7_waiting_37 : decode cX7_waiting 37 = .ok (.iconst 1, 1) := by decide +kernel
theorem dX7_waiting_38 : decode cX7_waiting 38 = .ok (.iadd, 1) := by decide +kernel
theorem dX7_waiting_39 : decode cX7_waiting 39 = .ok (.imul, 1) := by decide +kernel
theorem dX7_waiting_40 : decode cX7_waiting 40 = .ok (.iload_n 2, 1) := by decide +kernel
theorem dX7_waiting_41 : decode cX7_waiting 41 = .ok (.ifCond .ne 8, 3) := by decide +kernel
theorem dX7_waiting_44 : decode cX7_waiting 44 = .ok (.bipush 7, 2) := by decide +kernel
theorem dX7_waiting_46 : decode cX7_waiting 46 = .ok (.goto 6, 3) := by decide +kernel
theorem dX7_waiting_49 : decode cX7_waiting 49 = .ok (.iload_n 2, 1) := by decide +kernel
theorem dX7_waiting_50 : decode cX7_waiting 50 = .ok (.iconst 1, 1) := by decide +kernel
theorem dX7_waiting_51 : decode cX7_waiting 51 = .ok (.isub, 1) := by decide +kernel
theorem dX7_waiting_52 : decode cX7_waiting 52 = .ok (.iadd, 1) := by decide +kernel
theorem dX7_waiting_53 : decode cX7_waiting 53 = .ok (.laload, 1) := by decide +kernel
theorem dX7_waiting_54 : decode cX7_waiting 54 = .ok (.l2i, 1) := by decide +kernel
theorem dX7_waiting_55 : decode cX7_waiting 55 = .ok (.ireturn, 1) := by decide +kernel
set_option maxRecDepth 20000 in
theorem ggX7_event_X7_in : GoodIn wsX7_event wsX7_in := goodIn_r _ [7] (by decide +kernel) (by decide +kernel)
set_option maxRecDepth 20000 in
theorem gX7_event_X7_in : GoodIn wsX7_event (va_wsS RX7 48 yX7_in wsX7_in) := goodIn_app (goodIn_of _ (by decide +kernel)) ggX7_event_X7_in
theorem dX7_event_0 : decode cX7_event 0 = .ok (.iload_n 1, 1) := by decide +kernel
theorem dX7_event_1 : decode cX7_event 1 = .ok (.i2l, 1) := by decide +kernel
theorem dX7_event_2 : decode cX7_event 2 = .ok (.lconst 0, 1) := by decide +kernel
theorem dX7_event_3 : decode cX7_event 3 = .ok (.aload_n 0, 1) := by decide +kernel
theorem dX7_event_4 : decode cX7_event 4 = .ok (.getfield 117, 3) := by decide +kernel
theorem dX7_event_7 : decode cX7_event 7 = .ok (.bipush 60, 2) := by decide +kernel
theorem dX7_event_9 : decode cX7_event 9 = .ok (.if_icmp .ge 10, 3) := by decide +kernel
theorem dX7_event_12 : decode cX7_event 12 = .ok (.aload_n 0, 1) := by decide +kernel
theorem dX7_event_13 : decode cX7_event 13 = .ok (.getfield 117, 3) := by decide +kernel
theorem dX7_event_16 : decode cX7_event 16 = .ok (.goto 5, 3) := by decide +kernel
theorem dX7_event_19 : decode cX7_event 19 = .ok (.bipush 60, 2) := by decide +kernel
theorem dX7_event_21 : decode cX7_event 21 = .ok (.iconst 1, 1) := by decide +kernel
theorem dX7_event_22 : decode cX7_event 22 = .ok (.isub, 1) := by decide +kernel
theorem dX7_event_23 : decode cX7_event 23 = .ok (.i2l, 1) := by decide +kernel
theorem dX7_event_24 : decode cX7_event 24 = .ok (.invokestatic 48, 3) := by decide +kernel
theorem dX7_event_27 : decode cX7_event 27 = .ok (.ifCond .eq 15, 3) := by decide +kernel
theorem dX7_event_30 : decode cX7_event 30 = .ok (.iload_n 2, 1) := by decide +kernel
theorem dX7_event_31 : decode cX7_event 31 = .ok (.i2l, 1) := by decide +kernel
theorem dX7_event_32 : decode cX7_event 32 = .ok (.lconst 0, 1) := by decide +kernel
theorem dX7_event_33 : decode cX7_event 33 = .ok (.ldc2_w 94, 3) := by decide +kernel
theorem dX7_event_36 : decode cX7_event 36 = .ok (.invokestatic 48, 3) := by decide +kernel
theorem dX7_event_39 : decode cX7_event 39 = .ok (.ifCond .ne 5, 3) := by decide +kernel
theorem dX7_event_42 : decode cX7_event 42 = .ok (.iconst (-1), 1) := by decide +kernel
theorem dX7_event_43 : decode cX7_event 43 = .ok (.ireturn, 1) := by decide +kernel
theorem dX7_event_44 : decode cX7_event 44 = .ok (.aload_n 0, 1) := by decide +kernel
theorem dX7_event_45 : decode cX7_event 45 = .ok (.getfield 39, 3) := by decide +kernel
theorem dX7_event_48 : decode cX7_event 48 = .ok (.iconst 3, 1) := by decide +kernel
theorem dX7_event_49 : decode cX7_event 49 = .ok (.aload_n 0, 1) := by decide +kernel
theorem dX7_event_50 : decode cX7_event 50 = .ok (.getfield 117, 3) := by decide +kernel
theorem dX7_event_53 : decode cX7_event 53 = .ok (.iconst 1, 1) := by decide +kernel
theorem dX7_event_54 : decode cX7_event 54 = .ok (.isub, 1) := by decide +kernel
theorem dX7_event_55 : decode cX7_event 55 = .ok (.iload_n 1, 1) := by decide +kernel
theorem dX7_event_56 : decode cX7_event 56 = .ok (.isub, 1) := by decide +kernel
theorem dX7_event_57 : decode cX7_event 57 = .ok (.bipush 60, 2) := by decide +kernel
theorem dX7_event_59 : decode cX7_event 59 = .ok (.irem, 1) := by decide +kernel
theorem dX7_event_60 : decode cX7_event 60 = .ok (.imul, 1) := by decide +kernel
theorem dX7_event_61 : decode cX7_event 61 = .ok (.iload_n 2, 1) := by decide +kernel
theorem dX7_event_62 : decode cX7_event 62 = .ok (.iadd, 1) := by decide +kernel
theorem dX7_event_63 : decode cX7_event 63 = .ok (.iaload, 1) := by decide +kernel
theorem dX7_event_64 : decode cX7_event 64 = .ok (.ireturn, 1) := by decide +kernel
theorem dX7_paid_0 : decode cX7_paid 0 = .ok (.aload_n 0, 1) := by decide +kernel
theorem dX7_paid_1 : decode cX7_paid 1 = .ok (.getfield 141, 3) := by decide +kernel
theorem dX7_paid_4 : decode cX7_paid 4 = .ok (.lreturn, 1) := by decide +kernel
theorem dX7_told__0 : decode cX7_told_ 0 = .ok (.iload_n 1, 1) := by decide +kernel
theorem dX7_told__1 : decode cX7_told_ 1 = .ok (.tableswitch 69 0 5 #[39, 44, 49, 54, 59, 64], 39) := by decide +kernel
theorem dX7_told__40 : decode cX7_told_ 40 = .ok (.aload_n 0, 1) := by decide +kernel
theorem dX7_told__41 : decode cX7_told_ 41 = .ok (.getfield 45, 3) := by decide +kernel
theorem dX7_told__44 : decode cX7_told_ 44 = .ok (.ireturn, 1) := by decide +kernel
theorem dX7_told__45 : decode cX7_told_ 45 = .ok (.aload_n 0, 1) := by decide +kernel
theorem dX7_told__46 : decode cX7_told_ 46 = .ok (.getfield 68, 3) := by decide +kernel
theorem dX7_told__49 : decode cX7_told_ 49 = .ok (.ireturn, 1) := by decide +kernel
theorem dX7_told__50 : decode cX7_told_ 50 = .ok (.aload_n 0, 1) := by decide +kernel
theorem dX7_told__51 : decode cX7_told_ 51 = .ok (.getfield 100, 3) := by decide +kernel
theorem dX7_told__54 : decode cX7_told_ 54 = .ok (.ireturn, 1) := by decide +kernel
theorem dX7_told__55 : decode cX7_told_ 55 = .ok (.aload_n 0, 1) := by decide +kernel
theorem dX7_told__56 : decode cX7_told_ 56 = .ok (.getfield 135, 3) := by decide +kernel
theorem dX7_told__59 : decode cX7_told_ 59 = .ok (.ireturn, 1) := by decide +kernel
theorem dX7_told__60 : decode cX7_told_ 60 = .ok (.aload_n 0, 1) := by decide +kernel
theorem dX7_told__61 : decode cX7_told_ 61 = .ok (.getfield 117, 3) := by decide +kernel
theorem dX7_told__64 : decode cX7_told_ 64 = .ok (.ireturn, 1) := by decide +kernel
theorem dX7_told__65 : decode cX7_told_ 65 = .ok (.aload_n 0, 1) := by decide +kernel
theorem dX7_told__66 : decode cX7_told_ 66 = .ok (.getfield 103, 3) := by decide +kernel
theorem dX7_told__69 : decode cX7_told_ 69 = .ok (.ireturn, 1) := by decide +kernel
theorem dX7_told__70 : decode cX7_told_ 70 = .ok (.iconst (-1), 1) := by decide +kernel
theorem dX7_told__71 : decode cX7_told_ 71 = .ok (.ireturn, 1) := by decide +kernel
theorem dJ6_bitCount_0f7a4_0 : decode cJ6_bitCount_0f7a4 0 = .ok (.iload_n 0, 1) := by decide +kernel
theorem dJ6_bitCount_0f7a4_1 : decode cJ6_bitCount_0f7a4 1 = .ok (.iload_n 0, 1) := by decide +kernel
theorem dJ6_bitCount_0f7a4_2 : decode cJ6_bitCount_0f7a4 2 = .ok (.iconst 1, 1) := by decide +kernel
theorem dJ6_bitCount_0f7a4_3 : decode cJ6_bitCount_0f7a4 3 = .ok (.iushr, 1) := by decide +kernel
theorem dJ6_bitCount_0f7a4_4 : decode cJ6_bitCount_0f7a4 4 = .ok (.ldc_w 265, 3) := by decide +kernel
theorem dJ6_bitCount_0f7a4_7 : decode cJ6_bitCount_0f7a4 7 = .ok (.iand, 1) := by decide +kernel
theorem dJ6_bitCount_0f7a4_8 : decode cJ6_bitCount_0f7a4 8 = .ok (.isub, 1) := by decide +kernel
theorem dJ6_bitCount_0f7a4_9 : decode cJ6_bitCount_0f7a4 9 = .ok (.istore_n 0, 1) := by decide +kernel
theorem dJ6_bitCount_0f7a4_10 : decode cJ6_bitCount_0f7a4 10 = .ok (.iload_n 0, 1) := by decide +kernel
theorem dJ6_bitCount_0f7a4_11 : decode cJ6_bitCount_0f7a4 11 = .ok (.ldc_w 266, 3) := by decide +kernel
theorem dJ6_bitCount_0f7a4_14 : decode cJ6_bitCount_0f7a4 14 = .ok (.iand, 1) := by decide +kernel
theorem dJ6_bitCount_0f7a4_15 : decode cJ6_bitCount_0f7a4 15 = .ok (.iload_n 0, 1) := by decide +kernel
theorem dJ6_bitCount_0f7a4_16 : decode cJ6_bitCount_0f7a4 16 = .ok (.iconst 2, 1) := by decide +kernel
theorem dJ6_bitCount_0f7a4_17 : decode cJ6_bitCount_0f7a4 17 = .ok (.iushr, 1) := by decide +kernel
theorem dJ6_bitCount_0f7a4_18 : decode cJ6_bitCount_0f7a4 18 = .ok (.ldc_w 266, 3) := by decide +kernel
theorem dJ6_bitCount_0f7a4_21 : decode cJ6_bitCount_0f7a4 21 = .ok (.iand, 1) := by decide +kernel
theorem dJ6_bitCount_0f7a4_22 : decode cJ6_bitCount_0f7a4 22 = .ok (.iadd, 1) := by decide +kernel
theorem dJ6_bitCount_0f7a4_23 : decode cJ6_bitCount_0f7a4 23 = .ok (.istore_n 0, 1) := by decide +kernel
theorem dJ6_bitCount_0f7a4_24 : decode cJ6_bitCount_0f7a4 24 = .ok (.iload_n 0, 1) := by decide +kernel
theorem dJ6_bitCount_0f7a4_25 : decode cJ6_bitCount_0f7a4 25 = .ok (.iload_n 0, 1) := by decide +kernel
theorem dJ6_bitCount_0f7a4_26 : decode cJ6_bitCount_0f7a4 26 = .ok (.iconst 4, 1) := by decide +kernel
theorem dJ6_bitCount_0f7a4_27 : decode cJ6_bitCount_0f7a4 27 = .ok (.iushr, 1) := by decide +kernel
theorem dJ6_bitCount_0f7a4_28 : decode cJ6_bitCount_0f7a4 28 = .ok (.iadd, 1) := by decide +kernel
theorem dJ6_bitCount_0f7a4_29 : decode cJ6_bitCount_0f7a4 29 = .ok (.ldc_w 267, 3) := by decide +kernel
theorem dJ6_bitCount_0f7a4_32 : decode cJ6_bitCount_0f7a4 32 = .ok (.iand, 1) := by decide +kernel
theorem dJ6_bitCount_0f7a4_33 : decode cJ6_bitCount_0f7a4 33 = .ok (.istore_n 0, 1) := by decide +kernel
theorem dJ6_bitCount_0f7a4_34 : decode cJ6_bitCount_0f7a4 34 = .ok (.iload_n 0, 1) := by decide +kernel
theorem dJ6_bitCount_0f7a4_35 : decode cJ6_bitCount_0f7a4 35 = .ok (.iload_n 0, 1) := by decide +kernel
theorem dJ6_bitCount_0f7a4_36 : decode cJ6_bitCount_0f7a4 36 = .ok (.bipush 8, 2) := by decide +kernel
theorem dJ6_bitCount_0f7a4_38 : decode cJ6_bitCount_0f7a4 38 = .ok (.iushr, 1) := by decide +kernel
theorem dJ6_bitCount_0f7a4_39 : decode cJ6_bitCount_0f7a4 39 = .ok (.iadd, 1) := by decide +kernel
theorem dJ6_bitCount_0f7a4_40 : decode cJ6_bitCount_0f7a4 40 = .ok (.istore_n 0, 1) := by decide +kernel
theorem dJ6_bitCount_0f7a4_41 : decode cJ6_bitCount_0f7a4 41 = .ok (.iload_n 0, 1) := by decide +kernel
theorem dJ6_bitCount_0f7a4_42 : decode cJ6_bitCount_0f7a4 42 = .ok (.iload_n 0, 1) := by decide +kernel
theorem dJ6_bitCount_0f7a4_43 : decode cJ6_bitCount_0f7a4 43 = .ok (.bipush 16, 2) := by decide +kernel
theorem dJ6_bitCount_0f7a4_45 : decode cJ6_bitCount_0f7a4 45 = .ok (.iushr, 1) := by decide +kernel
theorem dJ6_bitCount_0f7a4_46 : decode cJ6_bitCount_0f7a4 46 = .ok (.iadd, 1) := by decide +kernel
theorem dJ6_bitCount_0f7a4_47 : decode cJ6_bitCount_0f7a4 47 = .ok (.istore_n 0, 1) := by decide +kernel
theorem dJ6_bitCount_0f7a4_48 : decode cJ6_bitCount_0f7a4 48 = .ok (.iload_n 0, 1) := by decide +kernel
theorem dJ6_bitCount_0f7a4_49 : decode cJ6_bitCount_0f7a4 49 = .ok (.bipush 63, 2) := by decide +kernel
theorem dJ6_bitCount_0f7a4_51 : decode cJ6_bitCount_0f7a4 51 = .ok (.iand, 1) := by decide +kernel
theorem dJ6_bitCount_0f7a4_52 : decode cJ6_bitCount_0f7a4 52 = .ok (.ireturn, 1) := by decide +kernel
theorem dJ9_min_7cf53_0 : decode cJ9_min_7cf53 0 = .ok (.iload_n 0, 1) := by decide +kernel
theorem dJ9_min_7cf53_1 : decode cJ9_min_7cf53 1 = .ok (.iload_n 1, 1) := by decide +kernel
theorem dJ9_min_7cf53_2 : decode cJ9_min_7cf53 2 = .ok (.if_icmp .gt 7, 3) := by decide +kernel
theorem dJ9_min_7cf53_5 : decode cJ9_min_7cf53 5 = .ok (.iload_n 0, 1) := by decide +kernel
theorem dJ9_min_7cf53_6 : decode cJ9_min_7cf53 6 = .ok (.goto 4, 3) := by decide +kernel
theorem dJ9_min_7cf53_9 : decode cJ9_min_7cf53 9 = .ok (.iload_n 1, 1) := by decide +kernel
theorem dJ9_min_7cf53_10 : decode cJ9_min_7cf53 10 = .ok (.ireturn, 1) := by decide +kernel
