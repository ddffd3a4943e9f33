theorem dX0_init_0 : decode cX0_init 0 = .ok (.aload_n 0, 1) := by decide +kernel
theorem dX0_init_1 : decode cX0_init 1 = .ok (.invokespecial 3, 3) := by decide +kernel
theorem dX0_init_4 : decode cX0_init 4 = .ok (.aload_n 0, 1) := by decide +kernel
theorem dX0_init_5 : decode cX0_init 5 = .ok (.bipush 6, 2) := by decide +kernel
theorem dX0_init_7 : decode cX0_init 7 = .ok (.bipush 40, 2) := by decide +kernel
theorem dX0_init_9 : decode cX0_init 9 = .ok (.multianewarray 11 2, 4) := by decide +kernel
theorem dX0_init_13 : decode cX0_init 13 = .ok (.putfield 13, 3) := by decide +kernel
theorem dX0_init_16 : decode cX0_init 16 = .ok (.aload_n 0, 1) := by decide +kernel
theorem dX0_init_17 : decode cX0_init 17 = .ok (.bipush 6, 2) := by decide +kernel
theorem dX0_init_19 : decode cX0_init 19 = .ok (.newarray .int, 2) := by decide +kernel
theorem dX0_init_21 : decode cX0_init 21 = .ok (.putfield 16, 3) := by decide +kernel
theorem dX0_init_24 : decode cX0_init 24 = .ok (.return_, 1) := by decide +kernel
theorem dX0_has_0 : decode cX0_has 0 = .ok (.iload_n 1, 1) := by decide +kernel
theorem dX0_has_1 : decode cX0_has 1 = .ok (.ifCond .lt 13, 3) := by decide +kernel
theorem dX0_has_4 : decode cX0_has 4 = .ok (.iload_n 1, 1) := by decide +kernel
theorem dX0_has_5 : decode cX0_has 5 = .ok (.bipush 6, 2) := by decide +kernel
theorem dX0_has_7 : decode cX0_has 7 = .ok (.if_icmp .ge 7, 3) := by decide +kernel
theorem dX0_has_10 : decode cX0_has 10 = .ok (.iconst 1, 1) := by decide +kernel
theorem dX0_has_11 : decode cX0_has 11 = .ok (.goto 4, 3) := by decide +kernel
theorem dX0_has_14 : decode cX0_has 14 = .ok (.iconst 0, 1) := by decide +kernel
theorem dX0_has_15 : decode cX0_has 15 = .ok (.ireturn, 1) := by decide +kernel
theorem dX0_hasPlace_0 : decode cX0_hasPlace 0 = .ok (.iload_n 1, 1) := by decide +kernel
theorem dX0_hasPlace_1 : decode cX0_hasPlace 1 = .ok (.ifCond .lt 27, 3) := by decide +kernel
theorem dX0_hasPlace_4 : decode cX0_hasPlace 4 = .ok (.iload_n 1, 1) := by decide +kernel
theorem dX0_hasPlace_5 : decode cX0_hasPlace 5 = .ok (.bipush 6, 2) := by decide +kernel
theorem dX0_hasPlace_7 : decode cX0_hasPlace 7 = .ok (.if_icmp .ge 21, 3) := by decide +kernel
theorem dX0_hasPlace_10 : decode cX0_hasPlace 10 = .ok (.iload_n 2, 1) := by decide +kernel
theorem dX0_hasPlace_11 : decode cX0_hasPlace 11 = .ok (.ifCond .lt 17, 3) := by decide +kernel
theorem dX0_hasPlace_14 : decode cX0_hasPlace 14 = .ok (.iload_n 2, 1) := by decide +kernel
theorem dX0_hasPlace_15 : decode cX0_hasPlace 15 = .ok (.aload_n 0, 1) := by decide +kernel
theorem dX0_hasPlace_16 : decode cX0_hasPlace 16 = .ok (.getfield 16, 3) := by decide +kernel
theorem dX0_hasPlace_19 : decode cX0_hasPlace 19 = .ok (.iload_n 1, 1) := by decide +kernel
theorem dX0_hasPlace_20 : decode cX0_hasPlace 20 = .ok (.iaload, 1) := by decide +kernel
theorem dX0_hasPlace_21 : decode cX0_hasPlace 21 = .ok (.if_icmp .ge 7, 3) := by decide +kernel
theorem dX0_hasPlace_24 : decode cX0_hasPlace 24 = .ok (.iconst 1, 1) := by decide +kernel
theorem dX0_hasPlace_25 : decode cX0_hasPlace 25 = .ok (.goto 4, 3) := by decide +kernel
theorem dX0_hasPlace_28 : decode cX0_hasPlace 28 = .ok (.iconst 0, 1) := by decide +kernel
theorem dX0_hasPlace_29 : decode cX0_hasPlace 29 = .ok (.ireturn, 1) := by decide +kernel
theorem dX0_lengthOf_0 : decode cX0_lengthOf 0 = .ok (.iload_n 1, 1) := by decide +kernel
theorem dX0_lengthOf_1 : decode cX0_lengthOf 1 = .ok (.ifCond .lt 18, 3) := by decide +kernel
theorem dX0_lengthOf_4 : decode cX0_lengthOf 4 = .ok (.iload_n 1, 1) := by decide +kernel
theorem dX0_lengthOf_5 : decode cX0_lengthOf 5 = .ok (.bipush 6, 2) := by decide +kernel
theorem dX0_lengthOf_7 : decode cX0_lengthOf 7 = .ok (.if_icmp .ge 12, 3) := by decide +kernel
theorem dX0_lengthOf_10 : decode cX0_lengthOf 10 = .ok (.aload_n 0, 1) := by decide +kernel
theorem dX0_lengthOf_11 : decode cX0_lengthOf 11 = .ok (.getfield 16, 3) := by decide +kernel
theorem dX0_lengthOf_14 : decode cX0_lengthOf 14 = .ok (.iload_n 1, 1) := by decide +kernel
theorem dX0_lengthOf_15 : decode cX0_lengthOf 15 = .ok (.iaload, 1) := by decide +kernel
theorem dX0_lengthOf_16 : decode cX0_lengthOf 16 = .ok (.goto 4, 3) := by decide +kernel
theorem dX0_lengthOf_19 : decode cX0_lengthOf 19 = .ok (.iconst 0, 1) := by decide +kernel
theorem dX0_lengthOf_20 : decode cX0_lengthOf 20 = .ok (.ireturn, 1) := by decide +kernel
theorem dX0_wordAt_0 : decode cX0_wordAt 0 = .ok (.iload_n 1, 1) := by decide +kernel
theorem dX0_wordAt_1 : decode cX0_wordAt 1 = .ok (.ifCond .lt 23, 3) := by decide +kernel
theorem dX0_wordAt_4 : decode cX0_wordAt 4 = .ok (.iload_n 1, 1) := by decide +kernel
theorem dX0_wordAt_5 : decode cX0_wordAt 5 = .ok (.bipush 6, 2) := by decide +kernel
theorem dX0_wordAt_7 : decode cX0_wordAt 7 = .ok (.if_icmp .ge 17, 3) := by decide +kernel
theorem dX0_wordAt_10 : decode cX0_wordAt 10 = .ok (.iload_n 2, 1) := by decide +kernel
theorem dX0_wordAt_11 : decode cX0_wordAt 11 = .ok (.ifCond .lt 13, 3) := by decide +kernel
theorem dX0_wordAt_14 : decode cX0_wordAt 14 = .ok (.iload_n 2, 1) := by decide +kernel
theorem dX0_wordAt_15 : decode cX0_wordAt 15 = .ok (.aload_n 0, 1) := by decide +kernel
theorem dX0_wordAt_16 : decode cX0_wordAt 16 = .ok (.getfield 16, 3) := by decide +kernel
theorem dX0_wordAt_19 : decode cX0_wordAt 19 = .ok (.iload_n 1, 1) := by decide +kernel
theorem dX0_wordAt_20 : decode cX0_wordAt 20 = .ok (.iaload, 1) := by decide +kernel
theorem dX0_wordAt_21 : decode cX0_wordAt 21 = .ok (.if_icmp .lt 6, 3) := by decide +kernel
theorem dX0_wordAt_24 : decode cX0_wordAt 24 = .ok (.bipush (-99), 2) := by decide +kernel
theorem dX0_wordAt_26 : decode cX0_wordAt 26 = .ok (.ireturn, 1) := by decide +kernel
theorem dX0_wordAt_27 : decode cX0_wordAt 27 = .ok (.aload_n 0, 1) := by decide +kernel
theorem dX0_wordAt_28 : decode cX0_wordAt 28 = .ok (.getfield 13, 3) := by decide +kernel
theorem dX0_wordAt_31 : decode cX0_wordAt 31 = .ok (.iload_n 1, 1) := by decide +kernel
theorem dX0_wordAt_32 : decode cX0_wordAt 32 = .ok (.aaload, 1) := by decide +kernel
theorem dX0_wordAt_33 : decode cX0_wordAt 33 = .ok (.iload_n 2, 1) := by decide +kernel
theorem dX0_wordAt_34 : decode cX0_wordAt 34 = .ok (.iaload, 1) := by decide +kernel
theorem dX0_wordAt_35 : decode cX0_wordAt 35 = .ok (.ireturn, 1) := by decide +kernel
theorem dX0_put_0 : decode cX0_put 0 = .ok (.aload_n 0, 1) := by decide +kernel
theorem dX0_put_1 : decode cX0_put 1 = .ok (.iload_n 1, 1) := by decide +kernel
theorem dX0_put_2 : decode cX0_put 2 = .ok (.invokevirtual 20, 3) := by decide +kernel
theorem dX0_put_5 : decode cX0_put 5 = .ok (.ifCond .eq 28, 3) := by decide +kernel
theorem dX0_put_8 : decode cX0_put 8 = .ok (.iload_n 2, 1) := by decide +kernel
theorem dX0_put_9 : decode cX0_put 9 = .ok (.ifCond .lt 24, 3) := by decide +kernel
theorem dX0_put_12 : decode cX0_put 12 = .ok (.iload_n 2, 1) := by decide +kernel
theorem dX0_put_13 : decode cX0_put 13 = .ok (.aload_n 0, 1) := by decide +kernel
theorem dX0_put_14 : decode cX0_put 14 = .ok (.getfield 16, 3) := by decide +kernel
theorem dX0_put_17 : decode cX0_put 17 = .ok (.iload_n 1, 1) := by decide +kernel
theorem dX0_put_18 : decode cX0_put 18 = .ok (.iaload, 1) := by decide +kernel
theorem dX0_put_19 : decode cX0_put 19 = .ok (.if_icmp .gt 14, 3) := by decide +kernel
theorem dX0_put_22 : decode cX0_put 22 = .ok (.aload_n 0, 1) := by decide +kernel
theorem dX0_put_23 : decode cX0_put 23 = .ok (.getfield 16, 3) := by decide +kernel
theorem dX0_put_26 : decode cX0_put 26 = .ok (.iload_n 1, 1) := by decide +kernel
theorem dX0_put_27 : decode cX0_put 27 = .ok (.iaload, 1) := by decide +kernel
theorem dX0_put_28 : decode cX0_put 28 = .ok (.bipush 40, 2) := by decide +kernel
theorem dX0_put_30 : decode cX0_put 30 = .ok (.if_icmp .lt 4, 3) := by decide +kernel
theorem dX0_put_33 : decode cX0_put 33 = .ok (.return_, 1) := by decide +kernel
theorem dX0_put_34 : decode cX0_put 34 = .ok (.aload_n 0, 1) := by decide +kernel
theorem dX0_put_35 : decode cX0_put 35 = .ok (.getfield 13, 3) := by decide +kernel
theorem dX0_put_38 : decode cX0_put 38 = .ok (.iload_n 1, 1) := by decide +kernel
theorem dX0_put_39 : decode cX0_put 39 = .ok (.aaload, 1) := by decide +kernel
theorem dX0_put_40 : decode cX0_put 40 = .ok (.astore 4, 2) := by decide +kernel
theorem dX0_put_42 : decode cX0_put 42 = .ok (.aload_n 0, 1) := by decide +kernel
theorem dX0_put_43 : decode cX0_put 43 = .ok (.getfield 16, 3) := by decide +kernel
theorem dX0_put_46 : decode cX0_put 46 = .ok (.iload_n 1, 1) := by decide +kernel
theorem dX0_put_47 : decode cX0_put 47 = .ok (.iaload, 1) := by decide +kernel
theorem dX0_put_48 : decode cX0_put 48 = .ok (.istore 5, 2) := by decide +kernel
theorem dX0_put_50 : decode cX0_put 50 = .ok (.iload 5, 2) := by decide +kernel
theorem dX0_put_52 : decode cX0_put 52 = .ok (.iload_n 2, 1) := by decide +kernel
theorem dX0_put_53 : decode cX0_put 53 = .ok (.if_icmp .le 21, 3) := by decide +kernel
theorem dX0_put_56 : decode cX0_put 56 = .ok (.aload 4, 2) := by decide +kernel
theorem dX0_put_58 : decode cX0_put 58 = .ok (.iload 5, 2) := by decide +kernel
theorem dX0_put_60 : decode cX0_put 60 = .ok (.aload 4, 2) := by decide +kernel
theorem dX0_put_62 : decode cX0_put 62 = .ok (.iload 5, 2) := by decide +kernel
theorem dX0_put_64 : decode cX0_put 64 = .ok (.iconst 1, 1) := by decide +kernel
theorem dX0_put_65 : decode cX0_put 65 = .ok (.isub, 1) := by decide +kernel
theorem dX0_put_66 : decode cX0_put 66 = .ok (.iaload, 1) := by decide +kernel
theorem dX0_put_67 : decode cX0_put 67 = .ok (.iastore, 1) := by decide +kernel
theorem dX0_put_68 : decode cX0_put 68 = .ok (.iinc 5 (-1), 3) := by decide +kernel
theorem dX0_put_71 : decode cX0_put 71 = .ok (.goto (-21), 3) := by decide +kernel
theorem dX0_put_74 : decode cX0_put 74 = .ok (.aload 4, 2) := by decide +kernel
theorem dX0_put_76 : decode cX0_put 76 = .ok (.iload_n 2, 1) := by decide +kernel
theorem dX0_put_77 : decode cX0_put 77 = .ok (.iload_n 3, 1) := by decide +kernel
theorem dX0_put_78 : decode cX0_put 78 = .ok (.iastore, 1) := by decide +kernel
theorem dX0_put_79 : decode cX0_put 79 = .ok (.aload_n 0, 1) := by decide +kernel
theorem dX0_put_80 : decode cX0_put 80 = .ok (.getfield 16, 3) := by decide +kernel
theorem dX0_put_83 : decode cX0_put 83 = .ok (.iload_n 1, 1) := by decide +kernel
theorem dX0_put_84 : decode cX0_put 84 = .ok (.dup2, 1) := by decide +kernel
theorem dX0_put_85 : decode cX0_put 85 = .ok (.iaload, 1) := by decide +kernel
theorem dX0_put_86 : decode cX0_put 86 = .ok (.iconst 1, 1) := by decide +kernel
theorem dX0_put_87 : decode cX0_put 87 = .ok (.iadd, 1) := by decide +kernel
theorem dX0_put_88 : decode cX0_put 88 = .ok (.iastore, 1) := by decide +kernel
theorem dX0_put_89 : decode cX0_put 89 = .ok (.return_, 1) := by decide +kernel
theorem dX0_cut_0 : decode cX0_cut 0 = .ok (.aload_n 0, 1) := by decide +kernel
theorem dX0_cut_1 : decode cX0_cut 1 = .ok (.iload_n 1, 1) := by decide +kernel
theorem dX0_cut_2 : decode cX0_cut 2 = .ok (.iload_n 2, 1) := by decide +kernel
theorem dX0_cut_3 : decode cX0_cut 3 = .ok (.invokevirtual 24, 3) := by decide +kernel
theorem dX0_cut_6 : decode cX0_cut 6 = .ok (.ifCond .eq 17, 3) := by decide +kernel
theorem dX0_cut_9 : decode cX0_cut 9 = .ok (.aload_n 0, 1) := by decide +kernel
theorem dX0_cut_10 : decode cX0_cut 10 = .ok (.iload_n 1, 1) := by decide +kernel
theorem dX0_cut_11 : decode cX0_cut 11 = .ok (.iload_n 3, 1) := by decide +kernel
theorem dX0_cut_12 : decode cX0_cut 12 = .ok (.invokevirtual 24, 3) := by decide +kernel
theorem dX0_cut_15 : decode cX0_cut 15 = .ok (.ifCond .eq 8, 3) := by decide +kernel
theorem dX0_cut_18 : decode cX0_cut 18 = .ok (.iload_n 3, 1) := by decide +kernel
theorem dX0_cut_19 : decode cX0_cut 19 = .ok (.iload_n 2, 1) := by decide +kernel
theorem dX0_cut_20 : decode cX0_cut 20 = .ok (.if_icmp .ge 4, 3) := by decide +kernel
theorem dX0_cut_23 : decode cX0_cut 23 = .ok (.return_, 1) := by decide +kernel
theorem dX0_cut_24 : decode cX0_cut 24 = .ok (.aload_n 0, 1) := by decide +kernel
theorem dX0_cut_25 : decode cX0_cut 25 = .ok (.getfield 13, 3) := by decide +kernel
theorem dX0_cut_28 : decode cX0_cut 28 = .ok (.iload_n 1, 1) := by decide +kernel
theorem dX0_cut_29 : decode cX0_cut 29 = .ok (.aaload, 1) := by decide +kernel
theorem dX0_cut_30 : decode cX0_cut 30 = .ok (.astore 4, 2) := by decide +kernel
theorem dX0_cut_32 : decode cX0_cut 32 = .ok (.iload_n 3, 1) := by decide +kernel
theorem dX0_cut_33 : decode cX0_cut 33 = .ok (.iload_n 2, 1) := by decide +kernel
theorem dX0_cut_34 : decode cX0_cut 34 = .ok (.isub, 1) := by decide +kernel
theorem dX0_cut_35 : decode cX0_cut 35 = .ok (.iconst 1, 1) := by decide +kernel
theorem dX0_cut_36 : decode cX0_cut 36 = .ok (.iadd, 1) := by decide +kernel
theorem dX0_cut_37 : decode cX0_cut 37 = .ok (.istore 5, 2) := by decide +kernel
theorem dX0_cut_39 : decode cX0_cut 39 = .ok (.iload_n 3, 1) := by decide +kernel
theorem dX0_cut_40 : decode cX0_cut 40 = .ok (.iconst 1, 1) := by decide +kernel
theorem dX0_cut_41 : decode cX0_cut 41 = .ok (.iadd, 1) := by decide +kernel
theorem dX0_cut_42 : decode cX0_cut 42 = .ok (.istore 6, 2) := by decide +kernel
theorem dX0_cut_44 : decode cX0_cut 44 = .ok (.iload 6, 2) := by decide +kernel
theorem dX0_cut_46 : decode cX0_cut 46 = .ok (.aload_n 0, 1) := by decide +kernel
theorem dX0_cut_47 : decode cX0_cut 47 = .ok (.getfield 16, 3) := by decide +kernel
theorem dX0_cut_50 : decode cX0_cut 50 = .ok (.iload_n 1, 1) := by decide +kernel
theorem dX0_cut_51 : decode cX0_cut 51 = .ok (.iaload, 1) := by decide +kernel
theorem dX0_cut_52 : decode cX0_cut 52 = .ok (.if_icmp .ge 22, 3) := by decide +kernel
theorem dX0_cut_55 : decode cX0_cut 55 = .ok (.aload 4, 2) := by decide +kernel
theorem dX0_cut_57 : decode cX0_cut 57 = .ok (.iload 6, 2) := by decide +kernel
theorem dX0_cut_59 : decode cX0_cut 59 = .ok (.iload 5, 2) := by decide +kernel
theorem dX0_cut_61 : decode cX0_cut 61 = .ok (.isub, 1) := by decide +kernel
theorem dX0_cut_62 : decode cX0_cut 62 = .ok (.aload 4, 2) := by decide +kernel
theorem dX0_cut_64 : decode cX0_cut 64 = .ok (.iload 6, 2) := by decide +kernel
theorem dX0_cut_66 : decode cX0_cut 66 = .ok (.iaload, 1) := by decide +kernel
theorem dX0_cut_67 : decode cX0_cut 67 = .ok (.iastore, 1) := by decide +kernel
theorem dX0_cut_68 : decode cX0_cut 68 = .ok (.iinc 6 1, 3) := by decide +kernel
theorem dX0_cut_71 : decode cX0_cut 71 = .ok (.goto (-27), 3) := by decide +kernel
theorem dX0_cut_74 : decode cX0_cut 74 = .ok (.aload_n 0, 1) := by decide +kernel
theorem dX0_cut_75 : decode cX0_cut 75 = .ok (.getfield 16, 3) := by decide +kernel
theorem dX0_cut_78 : decode cX0_cut 78 = .ok (.iload_n 1, 1) := by decide +kernel
theorem dX0_cut_79 : decode cX0_cut 79 = .ok (.dup2, 1) := by decide +kernel
theorem dX0_cut_80 : decode cX0_cut 80 = .ok (.iaload, 1) := by decide +kernel
theorem dX0_cut_81 : decode cX0_cut 81 = .ok (.iload 5, 2) := by decide +kernel
theorem dX0_cut_83 : decode cX0_cut 83 = .ok (.isub, 1) := by decide +kernel
theorem dX0_cut_84 : decode cX0_cut 84 = .ok (.iastore, 1) := by decide +kernel
theorem dX0_cut_85 : decode cX0_cut 85 = .ok (.return_, 1) := by decide +kernel
theorem dX0_empty_0 : decode cX0_empty 0 = .ok (.aload_n 0, 1) := by decide +kernel
theorem dX0_empty_1 : decode cX0_empty 1 = .ok (.iload_n 1, 1) := by decide +kernel
theorem dX0_empty_2 : decode cX0_empty 2 = .ok (.invokevirtual 20, 3) := by decide +kernel
theorem dX0_empty_5 : decode cX0_empty 5 = .ok (.ifCond .eq 10, 3) := by decide +kernel
theorem dX0_empty_8 : decode cX0_empty 8 = .ok (.aload_n 0, 1) := by decide +kernel
theorem dX0_empty_9 : decode cX0_empty 9 = .ok (.getfield 16, 3) := by decide +kernel
theorem dX0_empty_12 : decode cX0_empty 12 = .ok (.iload_n 1, 1) := by decide +kernel
theorem dX0_empty_13 : decode cX0_empty 13 = .ok (.iconst 0, 1) := by decide +kernel
theorem dX0_empty_14 : decode cX0_empty 14 = .ok (.iastore, 1) := by decide +kernel
theorem dX0_empty_15 : decode cX0_empty 15 = .ok (.return_, 1) := by decide +kernel
theorem dX0_exchange_0 : decode cX0_exchange 0 = .ok (.iconst 0, 1) := by decide +kernel
theorem dX0_exchange_1 : decode cX0_exchange 1 = .ok (.istore_n 3, 1) := by decide +kernel
theorem dX0_exchange_2 : decode cX0_exchange 2 = .ok (.iconst 0, 1) := by decide +kernel
theorem dX0_exchange_3 : decode cX0_exchange 3 = .ok (.istore 4, 2) := by decide +kernel
theorem dX0_exchange_5 : decode cX0_exchange 5 = .ok (.iload 4, 2) := by decide +kernel
theorem dX0_exchange_7 : decode cX0_exchange 7 = .ok (.bipush 6, 2) := by decide +kernel
theorem dX0_exchange_9 : decode cX0_exchange 9 = .ok (.if_icmp .ge 58, 3) := by decide +kernel
theorem dX0_exchange_12 : decode cX0_exchange 12 = .ok (.iconst 0, 1) := by decide +kernel
theorem dX0_exchange_13 : decode cX0_exchange 13 = .ok (.istore 5, 2) := by decide +kernel
theorem dX0_exchange_15 : decode cX0_exchange 15 = .ok (.iload 5, 2) := by decide +kernel
theorem dX0_exchange_17 : decode cX0_exchange 17 = .ok (.aload_n 0, 1) := by decide +kernel
theorem dX0_exchange_18 : decode cX0_exchange 18 = .ok (.getfield 16, 3) := by decide +kernel
theorem dX0_exchange_21 : decode cX0_exchange 21 = .ok (.iload 4, 2) := by decide +kernel
theorem dX0_exchange_23 : decode cX0_exchange 23 = .ok (.iaload, 1) := by decide +kernel
theorem dX0_exchange_24 : decode cX0_exchange 24 = .ok (.if_icmp .ge 37, 3) := by decide +kernel
theorem dX0_exchange_27 : decode cX0_exchange 27 = .ok (.aload_n 0, 1) := by decide +kernel
theorem dX0_exchange_28 : decode cX0_exchange 28 = .ok (.getfield 13, 3) := by decide +kernel
theorem dX0_exchange_31 : decode cX0_exchange 31 = .ok (.iload 4, 2) := by decide +kernel
theorem dX0_exchange_33 : decode cX0_exchange 33 = .ok (.aaload, 1) := by decide +kernel
theorem dX0_exchange_34 : decode cX0_exchange 34 = .ok (.iload 5, 2) := by decide +kernel
theorem dX0_exchange_36 : decode cX0_exchange 36 = .ok (.iaload, 1) := by decide +kernel
theorem dX0_exchange_37 : decode cX0_exchange 37 = .ok (.iload_n 1, 1) := by decide +kernel
theorem dX0_exchange_38 : decode cX0_exchange 38 = .ok (.if_icmp .ne 17, 3) := by decide +kernel
theorem dX0_exchange_41 : decode cX0_exchange 41 = .ok (.aload_n 0, 1) := by decide +kernel
theorem dX0_exchange_42 : decode cX0_exchange 42 = .ok (.getfield 13, 3) := by decide +kernel
theorem dX0_exchange_45 : decode cX0_exchange 45 = .ok (.iload 4, 2) := by decide +kernel
theorem dX0_exchange_47 : decode cX0_exchange 47 = .ok (.aaload, 1) := by decide +kernel
theorem dX0_exchange_48 : decode cX0_exchange 48 = .ok (.iload 5, 2) := by decide +kernel
theorem dX0_exchange_50 : decode cX0_exchange 50 = .ok (.iload_n 2, 1) := by decide +kernel
theorem dX0_exchange_51 : decode cX0_exchange 51 = .ok (.iastore, 1) := by decide +kernel
theorem dX0_exchange_52 : decode cX0_exchange 52 = .ok (.iinc 3 1, 3) := by decide +kernel
theorem dX0_exchange_55 : decode cX0_exchange 55 = .ok (.iinc 5 1, 3) := by decide +kernel
theorem dX0_exchange_58 : decode cX0_exchange 58 = .ok (.goto (-43), 3) := by decide +kernel
theorem dX0_exchange_61 : decode cX0_exchange 61 = .ok (.iinc 4 1, 3) := by decide +kernel
theorem dX0_exchange_64 : decode cX0_exchange 64 = .ok (.goto (-59), 3) := by decide +kernel
theorem dX0_exchange_67 : decode cX0_exchange 67 = .ok (.iload_n 3, 1) := by decide +kernel
theorem dX0_exchange_68 : decode cX0_exchange 68 = .ok (.ireturn, 1) := by decide +kernel
theorem dX0_trade_0 : decode cX0_trade 0 = .ok (.aload_n 0, 1) := by decide +kernel
theorem dX0_trade_1 : decode cX0_trade 1 = .ok (.iload_n 1, 1) := by decide +kernel
theorem dX0_trade_2 : decode cX0_trade 2 = .ok (.invokevirtual 20, 3) := by decide +kernel
theorem dX0_trade_5 : decode cX0_trade 5 = .ok (.ifCond .eq 11, 3) := by decide +kernel
theorem dX0_trade_8 : decode cX0_trade 8 = .ok (.aload_n 0, 1) := by decide +kernel
theorem dX0_trade_9 : decode cX0_trade 9 = .ok (.iload_n 2, 1) := by decide +kernel
theorem dX0_trade_10 : decode cX0_trade 10 = .ok (.invokevirtual 20, 3) := by decide +kernel
theorem dX0_trade_13 : decode cX0_trade 13 = .ok (.ifCond .ne 4, 3) := by decide +kernel
theorem dX0_trade_16 : decode cX0_trade 16 = .ok (.return_, 1) := by decide +kernel
theorem dX0_trade_17 : decode cX0_trade 17 = .ok (.aload_n 0, 1) := by decide +kernel
theorem dX0_trade_18 : decode cX0_trade 18 = .ok (.getfield 13, 3) := by decide +kernel
theorem dX0_trade_21 : decode cX0_trade 21 = .ok (.iload_n 1, 1) := by decide +kernel
theorem dX0_trade_22 : decode cX0_trade 22 = .ok (.aaload, 1) := by decide +kernel
theorem dX0_trade_23 : decode cX0_trade 23 = .ok (.astore_n 3, 1) := by decide +kernel
theorem dX0_trade_24 : decode cX0_trade 24 = .ok (.aload_n 0, 1) := by decide +kernel
theorem dX0_trade_25 : decode cX0_trade 25 = .ok (.getfield 13, 3) := by decide +kernel
theorem dX0_trade_28 : decode cX0_trade 28 = .ok (.iload_n 1, 1) := by decide +kernel
theorem dX0_trade_29 : decode cX0_trade 29 = .ok (.aload_n 0, 1) := by decide +kernel
theorem dX0_trade_30 : decode cX0_trade 30 = .ok (.getfield 13, 3) := by decide +kernel
theorem dX0_trade_33 : decode cX0_trade 33 = .ok (.iload_n 2, 1) := by decide +kernel
theorem dX0_trade_34 : decode cX0_trade 34 = .ok (.aaload, 1) := by decide +kernel
theorem dX0_trade_35 : decode cX0_trade 35 = .ok (.aastore, 1) := by decide +kernel
theorem dX0_trade_36 : decode cX0_trade 36 = .ok (.aload_n 0, 1) := by decide +kernel
theorem dX0_trade_37 : decode cX0_trade 37 = .ok (.getfield 13, 3) := by decide +kernel
theorem dX0_trade_40 : decode cX0_trade 40 = .ok (.iload_n 2, 1) := by decide +kernel
theorem dX0_trade_41 : decode cX0_trade 41 = .ok (.aload_n 3, 1) := by decide +kernel
theorem dX0_trade_42 : decode cX0_trade 42 = .ok (.aastore, 1) := by decide +kernel
theorem dX0_trade_43 : decode cX0_trade 43 = .ok (.aload_n 0, 1) := by decide +kernel
theorem dX0_trade_44 : decode cX0_trade 44 = .ok (.getfield 16, 3) := by decide +kernel
theorem dX0_trade_47 : decode cX0_trade 47 = .ok (.iload_n 1, 1) := by decide +kernel
theorem dX0_trade_48 : decode cX0_trade 48 = .ok (.iaload, 1) := by decide +kernel
theorem dX0_trade_49 : decode cX0_trade 49 = .ok (.istore 4, 2) := by decide +kernel
theorem dX0_trade_51 : decode cX0_trade 51 = .ok (.aload_n 0, 1) := by decide +kernel
theorem dX0_trade_52 : decode cX0_trade 52 = .ok (.getfield 16, 3) := by decide +kernel
theorem dX0_trade_55 : decode cX0_trade 55 = .ok (.iload_n 1, 1) := by decide +kernel
theorem dX0_trade_56 : decode cX0_trade 56 = .ok (.aload_n 0, 1) := by decide +kernel
theorem dX0_trade_57 : decode cX0_trade 57 = .ok (.getfield 16, 3) := by decide +kernel
theorem dX0_trade_60 : decode cX0_trade 60 = .ok (.iload_n 2, 1) := by decide +kernel
theorem dX0_trade_61 : decode cX0_trade 61 = .ok (.iaload, 1) := by decide +kernel
theorem dX0_trade_62 : decode cX0_trade 62 = .ok (.iastore, 1) := by decide +kernel
theorem dX0_trade_63 : decode cX0_trade 63 = .ok (.aload_n 0, 1) := by decide +kernel
theorem dX0_trade_64 : decode cX0_trade 64 = .ok (.getfield 16, 3) := by decide +kernel
theorem dX0_trade_67 : decode cX0_trade 67 = .ok (.iload_n 2, 1) := by decide +kernel
theorem dX0_trade_68 : decode cX0_trade 68 = .ok (.iload 4, 2) := by decide +kernel
theorem dX0_trade_70 : decode cX0_trade 70 = .ok (.iastore, 1) := by decide +kernel
theorem dX0_trade_71 : decode cX0_trade 71 = .ok (.return_, 1) := by decide +kernel
theorem dX0_total_0 : decode cX0_total 0 = .ok (.iconst 0, 1) := by decide +kernel
theorem dX0_total_1 : decode cX0_total 1 = .ok (.istore_n 1, 1) := by decide +kernel
theorem dX0_total_2 : decode cX0_total 2 = .ok (.iconst 0, 1) := by decide +kernel
theorem dX0_total_3 : decode cX0_total 3 = .ok (.istore_n 2, 1) := by decide +kernel
theorem dX0_total_4 : decode cX0_total 4 = .ok (.iload_n 2, 1) := by decide +kernel
theorem dX0_total_5 : decode cX0_total 5 = .ok (.bipush 6, 2) := by decide +kernel
theorem dX0_total_7 : decode cX0_total 7 = .ok (.if_icmp .ge 18, 3) := by decide +kernel
theorem dX0_total_10 : decode cX0_total 10 = .ok (.iload_n 1, 1) := by decide +kernel
theorem dX0_total_11 : decode cX0_total 11 = .ok (.aload_n 0, 1) := by decide +kernel
theorem dX0_total_12 : decode cX0_total 12 = .ok (.getfield 16, 3) := by decide +kernel
theorem dX0_total_15 : decode cX0_total 15 = .ok (.iload_n 2, 1) := by decide +kernel
theorem dX0_total_16 : decode cX0_total 16 = .ok (.iaload, 1) := by decide +kernel
theorem dX0_total_17 : decode cX0_total 17 = .ok (.iadd, 1) := by decide +kernel
theorem dX0_total_18 : decode cX0_total 18 = .ok (.istore_n 1, 1) := by decide +kernel
theorem dX0_total_19 : decode cX0_total 19 = .ok (.iinc 2 1, 3) := by decide +kernel
theorem dX0_total_22 : decode cX0_total 22 = .ok (.goto (-18), 3) := by decide +kernel
theorem dX0_total_25 : decode cX0_total 25 = .ok (.iload_n 1, 1) := by decide +kernel
theorem dX0_total_26 : decode cX0_total 26 = .ok (.ireturn, 1) := by decide +kernel
theorem dX0_copyFrom_0 : decode cX0_copyFrom 0 = .ok (.iconst 0, 1) := by decide +kernel
theorem dX0_copyFrom_1 : decode cX0_copyFrom 1 = .ok (.istore_n 2, 1) := by decide +kernel
theorem dX0_copyFrom_2 : decode cX0_copyFrom 2 = .ok (.iload_n 2, 1) := by decide +kernel
theorem dX0_copyFrom_3 : decode cX0_copyFrom 3 = .ok (.bipush 6, 2) := by decide +kernel
theorem dX0_copyFrom_5 : decode cX0_copyFrom 5 = .ok (.if_icmp .ge 28, 3) := by decide +kernel
theorem dX0_copyFrom_8 : decode cX0_copyFrom 8 = .ok (.aload_n 1, 1) := by decide +kernel
theorem dX0_copyFrom_9 : decode cX0_copyFrom 9 = .ok (.getfield 13, 3) := by decide +kernel
theorem dX0_copyFrom_12 : decode cX0_copyFrom 12 = .ok (.iload_n 2, 1) := by decide +kernel
theorem dX0_copyFrom_13 : decode cX0_copyFrom 13 = .ok (.aaload, 1) := by decide +kernel
theorem dX0_copyFrom_14 : decode cX0_copyFrom 14 = .ok (.iconst 0, 1) := by decide +kernel
theorem dX0_copyFrom_15 : decode cX0_copyFrom 15 = .ok (.aload_n 0, 1) := by decide +kernel
theorem dX0_copyFrom_16 : decode cX0_copyFrom 16 = .ok (.getfield 13, 3) := by decide +kernel
theorem dX0_copyFrom_19 : decode cX0_copyFrom 19 = .ok (.iload_n 2, 1) := by decide +kernel
theorem dX0_copyFrom_20 : decode cX0_copyFrom 20 = .ok (.aaload, 1) := by decide +kernel
theorem dX0_copyFrom_21 : decode cX0_copyFrom 21 = .ok (.iconst 0, 1) := by decide +kernel
theorem dX0_copyFrom_22 : decode cX0_copyFrom 22 = .ok (.bipush 40, 2) := by decide +kernel
theorem dX0_copyFrom_24 : decode cX0_copyFrom 24 = .ok (.invokestatic 28, 3) := by decide +kernel
theorem dX0_copyFrom_27 : decode cX0_copyFrom 27 = .ok (.iinc 2 1, 3) := by decide +kernel
theorem dX0_copyFrom_30 : decode cX0_copyFrom 30 = .ok (.goto (-28), 3) := by decide +kernel
theorem dX0_copyFrom_33 : decode cX0_copyFrom 33 = .ok (.aload_n 1, 1) := by decide +kernel
theorem dX0_copyFrom_34 : decode cX0_copyFrom 34 = .ok (.getfield 16, 3) := by decide +kernel
theorem dX0_copyFrom_37 : decode cX0_copyFrom 37 = .ok (.iconst 0, 1) := by decide +kernel
theorem dX0_copyFrom_38 : decode cX0_copyFrom 38 = .ok (.aload_n 0, 1) := by decide +kernel
theorem dX0_copyFrom_39 : decode cX0_copyFrom 39 = .ok (.getfield 16, 3) := by decide +kernel
theorem dX0_copyFrom_42 : decode cX0_copyFrom 42 = .ok (.iconst 0, 1) := by decide +kernel
theorem dX0_copyFrom_43 : decode cX0_copyFrom 43 = .ok (.bipush 6, 2) := by decide +kernel
theorem dX0_copyFrom_45 : decode cX0_copyFrom 45 = .ok (.invokestatic 28, 3) := by decide +kernel
theorem dX0_copyFrom_48 : decode cX0_copyFrom 48 = .ok (.return_, 1) := by decide +kernel
theorem dX1_init_0 : decode cX1_init 0 = .ok (.aload_n 0, 1) := by decide +kernel
theorem dX1_init_1 : decode cX1_init 1 = .ok (.invokespecial 1, 3) := by decide +kernel
theorem dX1_init_4 : decode cX1_init 4 = .ok (.aload_n 0, 1) := by decide +kernel
theorem dX1_init_5 : decode cX1_init 5 = .ok (.iconst 5, 1) := by decide +kernel
theorem dX1_init_6 : decode cX1_init 6 = .ok (.anewarray 9, 3) := by decide +kernel
theorem dX1_init_9 : decode cX1_init 9 = .ok (.putfield 11, 3) := by decide +kernel
theorem dX1_init_12 : decode cX1_init 12 = .ok (.aload_n 0, 1) := by decide +kernel
theorem dX1_init_13 : decode cX1_init 13 = .ok (.iconst 0, 1) := by decide +kernel
theorem dX1_init_14 : decode cX1_init 14 = .ok (.putfield 15, 3) := by decide +kernel
theorem dX1_init_17 : decode cX1_init 17 = .ok (.iconst 0, 1) := by decide +kernel
theorem dX1_init_18 : decode cX1_init 18 = .ok (.istore_n 1, 1) := by decide +kernel
theorem dX1_init_19 : decode cX1_init 19 = .ok (.iload_n 1, 1) := by decide +kernel
theorem dX1_init_20 : decode cX1_init 20 = .ok (.iconst 5, 1) := by decide +kernel
theorem dX1_init_21 : decode cX1_init 21 = .ok (.if_icmp .ge 22, 3) := by decide +kernel
theorem dX1_init_24 : decode cX1_init 24 = .ok (.aload_n 0, 1) := by decide +kernel
theorem dX1_init_25 : decode cX1_init 25 = .ok (.getfield 11, 3) := by decide +kernel
theorem dX1_init_28 : decode cX1_init 28 = .ok (.iload_n 1, 1) := by decide +kernel
theorem dX1_init_29 : decode cX1_init 29 = .ok (.new 9, 3) := by decide +kernel
theorem dX1_init_32 : decode cX1_init 32 = .ok (.dup, 1) := by decide +kernel
theorem dX1_init_33 : decode cX1_init 33 = .ok (.invokespecial 19, 3) := by decide +kernel
theorem dX1_init_36 : decode cX1_init 36 = .ok (.aastore, 1) := by decide +kernel
theorem dX1_init_37 : decode cX1_init 37 = .ok (.iinc 1 1, 3) := by decide +kernel
theorem dX1_init_40 : decode cX1_init 40 = .ok (.goto (-21), 3) := by decide +kernel
theorem dX1_init_43 : decode cX1_init 43 = .ok (.return_, 1) := by decide +kernel
theorem dX1_size_0 : decode cX1_size 0 = .ok (.aload_n 0, 1) := by decide +kernel
theorem dX1_size_1 : decode cX1_size 1 = .ok (.getfield 15, 3) := by decide +kernel
theorem dX1_size_4 : decode cX1_size 4 = .ok (.ireturn, 1) := by decide +kernel
theorem dX1_keep_0 : decode cX1_keep 0 = .ok (.aload_n 0, 1) := by decide +kernel
theorem dX1_keep_1 : decode cX1_keep 1 = .ok (.getfield 15, 3) := by decide +kernel
theorem dX1_keep_4 : decode cX1_keep 4 = .ok (.iconst 5, 1) := by decide +kernel
theorem dX1_keep_5 : decode cX1_keep 5 = .ok (.if_icmp .lt 7, 3) := by decide +kernel
theorem dX1_keep_8 : decode cX1_keep 8 = .ok (.aload_n 0, 1) := by decide +kernel
theorem dX1_keep_9 : decode cX1_keep 9 = .ok (.invokevirtual 20, 3) := by decide +kernel
theorem dX1_keep_12 : decode cX1_keep 12 = .ok (.aload_n 0, 1) := by decide +kernel
theorem dX1_keep_13 : decode cX1_keep 13 = .ok (.getfield 11, 3) := by decide +kernel
theorem dX1_keep_16 : decode cX1_keep 16 = .ok (.aload_n 0, 1) := by decide +kernel
theorem dX1_keep_17 : decode cX1_keep 17 = .ok (.getfield 15, 3) := by decide +kernel
theorem dX1_keep_20 : decode cX1_keep 20 = .ok (.aaload, 1) := by decide +kernel
theorem dX1_keep_21 : decode cX1_keep 21 = .ok (.aload_n 1, 1) := by decide +kernel
theorem dX1_keep_22 : decode cX1_keep 22 = .ok (.invokevirtual 23, 3) := by decide +kernel
theorem dX1_keep_25 : decode cX1_keep 25 = .ok (.aload_n 0, 1) := by decide +kernel
theorem dX1_keep_26 : decode cX1_keep 26 = .ok (.dup, 1) := by decide +kernel
theorem dX1_keep_27 : decode cX1_keep 27 = .ok (.getfield 15, 3) := by decide +kernel
theorem dX1_keep_30 : decode cX1_keep 30 = .ok (.iconst 1, 1) := by decide +kernel
theorem dX1_keep_31 : decode cX1_keep 31 = .ok (.iadd, 1) := by decide +kernel
theorem dX1_keep_32 : decode cX1_keep 32 = .ok (.putfield 15, 3) := by decide +kernel
theorem dX1_keep_35 : decode cX1_keep 35 = .ok (.return_, 1) := by decide +kernel
theorem dX1_dropOldest_0 : decode cX1_dropOldest 0 = .ok (.aload_n 0, 1) := by decide +kernel
theorem dX1_dropOldest_1 : decode cX1_dropOldest 1 = .ok (.getfield 11, 3) := by decide +kernel
theorem dX1_dropOldest_4 : decode cX1_dropOldest 4 = .ok (.iconst 0, 1) := by decide +kernel
theorem dX1_dropOldest_5 : decode cX1_dropOldest 5 = .ok (.aaload, 1) := by decide +kernel
theorem dX1_dropOldest_6 : decode cX1_dropOldest 6 = .ok (.astore_n 1, 1) := by decide +kernel
theorem dX1_dropOldest_7 : decode cX1_dropOldest 7 = .ok (.iconst 1, 1) := by decide +kernel
theorem dX1_dropOldest_8 : decode cX1_dropOldest 8 = .ok (.istore_n 2, 1) := by decide +kernel
theorem dX1_dropOldest_9 : decode cX1_dropOldest 9 = .ok (.iload_n 2, 1) := by decide +kernel
theorem dX1_dropOldest_10 : decode cX1_dropOldest 10 = .ok (.iconst 5, 1) := by decide +kernel
theorem dX1_dropOldest_11 : decode cX1_dropOldest 11 = .ok (.if_icmp .ge 23, 3) := by decide +kernel
theorem dX1_dropOldest_14 : decode cX1_dropOldest 14 = .ok (.aload_n 0, 1) := by decide +kernel
theorem dX1_dropOldest_15 : decode cX1_dropOldest 15 = .ok (.getfield 11, 3) := by decide +kernel
theorem dX1_dropOldest_18 : decode cX1_dropOldest 18 = .ok (.iload_n 2, 1) := by decide +kernel
theorem dX1_dropOldest_19 : decode cX1_dropOldest 19 = .ok (.iconst 1, 1) := by decide +kernel
theorem dX1_dropOldest_20 : decode cX1_dropOldest 20 = .ok (.isub, 1) := by decide +kernel
theorem dX1_dropOldest_21 : decode cX1_dropOldest 21 = .ok (.aload_n 0, 1) := by decide +kernel
theorem dX1_dropOldest_22 : decode cX1_dropOldest 22 = .ok (.getfield 11, 3) := by decide +kernel
theorem dX1_dropOldest_25 : decode cX1_dropOldest 25 = .ok (.iload_n 2, 1) := by decide +kernel
theorem dX1_dropOldest_26 : decode cX1_dropOldest 26 = .ok (.aaload, 1) := by decide +kernel
theorem dX1_dropOldest_27 : decode cX1_dropOldest 27 = .ok (.aastore, 1) := by decide +kernel
theorem dX1_dropOldest_28 : decode cX1_dropOldest 28 = .ok (.iinc 2 1, 3) := by decide +kernel
theorem dX1_dropOldest_31 : decode cX1_dropOldest 31 = .ok (.goto (-22), 3) := by decide +kernel
theorem dX1_dropOldest_34 : decode cX1_dropOldest 34 = .ok (.aload_n 0, 1) := by decide +kernel
theorem dX1_dropOldest_35 : decode cX1_dropOldest 35 = .ok (.getfield 11, 3) := by decide +kernel
theorem dX1_dropOldest_38 : decode cX1_dropOldest 38 = .ok (.iconst 4, 1) := by decide +kernel
theorem dX1_dropOldest_39 : decode cX1_dropOldest 39 = .ok (.aload_n 1, 1) := by decide +kernel
theorem dX1_dropOldest_40 : decode cX1_dropOldest 40 = .ok (.aastore, 1) := by decide +kernel
theorem dX1_dropOldest_41 : decode cX1_dropOldest 41 = .ok (.aload_n 0, 1) := by decide +kernel
theorem dX1_dropOldest_42 : decode cX1_dropOldest 42 = .ok (.dup, 1) := by decide +kernel
theorem dX1_dropOldest_43 : decode cX1_dropOldest 43 = .ok (.getfield 15, 3) := by decide +kernel
theorem dX1_dropOldest_46 : decode cX1_dropOldest 46 = .ok (.iconst 1, 1) := by decide +kernel
theorem dX1_dropOldest_47 : decode cX1_dropOldest 47 = .ok (.isub, 1) := by decide +kernel
theorem dX1_dropOldest_48 : decode cX1_dropOldest 48 = .ok (.putfield 15, 3) := by decide +kernel
theorem dX1_dropOldest_51 : decode cX1_dropOldest 51 = .ok (.return_, 1) := by decide +kernel
theorem dX1_giveBack_0 : decode cX1_giveBack 0 = .ok (.aload_n 0, 1) := by decide +kernel
theorem dX1_giveBack_1 : decode cX1_giveBack 1 = .ok (.getfield 15, 3) := by decide +kernel
theorem dX1_giveBack_4 : decode cX1_giveBack 4 = .ok (.ifCond .le 26, 3) := by decide +kernel
theorem dX1_giveBack_7 : decode cX1_giveBack 7 = .ok (.aload_n 0, 1) := by decide +kernel
theorem dX1_giveBack_8 : decode cX1_giveBack 8 = .ok (.dup, 1) := by decide +kernel
theorem dX1_giveBack_9 : decode cX1_giveBack 9 = .ok (.getfield 15, 3) := by decide +kernel
theorem dX1_giveBack_12 : decode cX1_giveBack 12 = .ok (.iconst 1, 1) := by decide +kernel
theorem dX1_giveBack_13 : decode cX1_giveBack 13 = .ok (.isub, 1) := by decide +kernel
theorem dX1_giveBack_14 : decode cX1_giveBack 14 = .ok (.putfield 15, 3) := by decide +kernel
theorem dX1_giveBack_17 : decode cX1_giveBack 17 = .ok (.aload_n 1, 1) := by decide +kernel
theorem dX1_giveBack_18 : decode cX1_giveBack 18 = .ok (.aload_n 0, 1) := by decide +kernel
theorem dX1_giveBack_19 : decode cX1_giveBack 19 = .ok (.getfield 11, 3) := by decide +kernel
theorem dX1_giveBack_22 : decode cX1_giveBack 22 = .ok (.aload_n 0, 1) := by decide +kernel
theorem dX1_giveBack_23 : decode cX1_giveBack 23 = .ok (.getfield 15, 3) := by decide +kernel
theorem dX1_giveBack_26 : decode cX1_giveBack 26 = .ok (.aaload, 1) := by decide +kernel
theorem dX1_giveBack_27 : decode cX1_giveBack 27 = .ok (.invokevirtual 23, 3) := by decide +kernel
theorem dX1_giveBack_30 : decode cX1_giveBack 30 = .ok (.return_, 1) := by decide +kernel
theorem dX2_init_0 : decode cX2_init 0 = .ok (.aload_n 0, 1) := by decide +kernel
theorem dX2_init_1 : decode cX2_init 1 = .ok (.invokespecial 3, 3) := by decide +kernel
theorem dX2_init_4 : decode cX2_init 4 = .ok (.aload_n 0, 1) := by decide +kernel
theorem dX2_init_5 : decode cX2_init 5 = .ok (.new 9, 3) := by decide +kernel
theorem dX2_init_8 : decode cX2_init 8 = .ok (.dup, 1) := by decide +kernel
theorem dX2_init_9 : decode cX2_init 9 = .ok (.invokespecial 11, 3) := by decide +kernel
theorem dX2_init_12 : decode cX2_init 12 = .ok (.putfield 12, 3) := by decide +kernel
theorem dX2_init_15 : decode cX2_init 15 = .ok (.aload_n 0, 1) := by decide +kernel
theorem dX2_init_16 : decode cX2_init 16 = .ok (.new 18, 3) := by decide +kernel
theorem dX2_init_19 : decode cX2_init 19 = .ok (.dup, 1) := by decide +kernel
theorem dX2_init_20 : decode cX2_init 20 = .ok (.invokespecial 20, 3) := by decide +kernel
theorem dX2_init_23 : decode cX2_init 23 = .ok (.putfield 21, 3) := by decide +kernel
theorem dX2_init_26 : decode cX2_init 26 = .ok (.aload_n 0, 1) := by decide +kernel
theorem dX2_init_27 : decode cX2_init 27 = .ok (.iconst 4, 1) := by decide +kernel
theorem dX2_init_28 : decode cX2_init 28 = .ok (.newarray .int, 2) := by decide +kernel
theorem dX2_init_30 : decode cX2_init 30 = .ok (.putfield 27, 3) := by decide +kernel
theorem dX2_init_33 : decode cX2_init 33 = .ok (.aload_n 0, 1) := by decide +kernel
theorem dX2_init_34 : decode cX2_init 34 = .ok (.iconst 0, 1) := by decide +kernel
theorem dX2_init_35 : decode cX2_init 35 = .ok (.putfield 31, 3) := by decide +kernel
theorem dX2_init_38 : decode cX2_init 38 = .ok (.aload_n 0, 1) := by decide +kernel
theorem dX2_init_39 : decode cX2_init 39 = .ok (.iconst 0, 1) := by decide +kernel
theorem dX2_init_40 : decode cX2_init 40 = .ok (.putfield 35, 3) := by decide +kernel
theorem dX2_init_43 : decode cX2_init 43 = .ok (.return_, 1) := by decide +kernel
theorem dX2_read_0 : decode cX2_read 0 = .ok (.aload_n 0, 1) := by decide +kernel
theorem dX2_read_1 : decode cX2_read 1 = .ok (.getfield 21, 3) := by decide +kernel
theorem dX2_read_4 : decode cX2_read 4 = .ok (.aload_n 1, 1) := by decide +kernel
theorem dX2_read_5 : decode cX2_read 5 = .ok (.invokevirtual 38, 3) := by decide +kernel
theorem dX2_read_8 : decode cX2_read 8 = .ok (.aload_n 0, 1) := by decide +kernel
theorem dX2_read_9 : decode cX2_read 9 = .ok (.iconst 0, 1) := by decide +kernel
theorem dX2_read_10 : decode cX2_read 10 = .ok (.putfield 35, 3) := by decide +kernel
theorem dX2_read_13 : decode cX2_read 13 = .ok (.aload_n 0, 1) := by decide +kernel
theorem dX2_read_14 : decode cX2_read 14 = .ok (.invokevirtual 42, 3) := by decide +kernel
theorem dX2_read_17 : decode cX2_read 17 = .ok (.iconst 0, 1) := by decide +kernel
theorem dX2_read_18 : decode cX2_read 18 = .ok (.istore_n 2, 1) := by decide +kernel
theorem dX2_read_19 : decode cX2_read 19 = .ok (.iload_n 2, 1) := by decide +kernel
theorem dX2_read_20 : decode cX2_read 20 = .ok (.sipush 140, 3) := by decide +kernel
theorem dX2_read_23 : decode cX2_read 23 = .ok (.if_icmp .gt 88, 3) := by decide +kernel
theorem dX2_read_26 : decode cX2_read 26 = .ok (.aload_n 0, 1) := by decide +kernel
theorem dX2_read_27 : decode cX2_read 27 = .ok (.getfield 31, 3) := by decide +kernel
theorem dX2_read_30 : decode cX2_read 30 = .ok (.aload_n 0, 1) := by decide +kernel
theorem dX2_read_31 : decode cX2_read 31 = .ok (.getfield 12, 3) := by decide +kernel
theorem dX2_read_34 : decode cX2_read 34 = .ok (.invokevirtual 45, 3) := by decide +kernel
theorem dX2_read_37 : decode cX2_read 37 = .ok (.if_icmp .lt 5, 3) := by decide +kernel
theorem dX2_read_40 : decode cX2_read 40 = .ok (.iload_n 2, 1) := by decide +kernel
theorem dX2_read_41 : decode cX2_read 41 = .ok (.ireturn, 1) := by decide +kernel
theorem dX2_read_42 : decode cX2_read 42 = .ok (.aload_n 0, 1) := by decide +kernel
theorem dX2_read_43 : decode cX2_read 43 = .ok (.ldc 49, 2) := by decide +kernel
theorem dX2_read_45 : decode cX2_read 45 = .ok (.invokevirtual 51, 3) := by decide +kernel
theorem dX2_read_48 : decode cX2_read 48 = .ok (.ifCond .eq 11, 3) := by decide +kernel
theorem dX2_read_51 : decode cX2_read 51 = .ok (.aload_n 0, 1) := by decide +kernel
theorem dX2_read_52 : decode cX2_read 52 = .ok (.invokevirtual 55, 3) := by decide +kernel
theorem dX2_read_55 : decode cX2_read 55 = .ok (.istore_n 3, 1) := by decide +kernel
theorem dX2_read_56 : decode cX2_read 56 = .ok (.goto 42, 3) := by decide +kernel
theorem dX2_read_59 : decode cX2_read 59 = .ok (.aload_n 0, 1) := by decide +kernel
theorem dX2_read_60 : decode cX2_read 60 = .ok (.ldc 59, 2) := by decide +kernel
theorem dX2_read_62 : decode cX2_read 62 = .ok (.invokevirtual 51, 3) := by decide +kernel
theorem dX2_read_65 : decode cX2_read 65 = .ok (.ifCond .eq 11, 3) := by decide +kernel
theorem dX2_read_68 : decode cX2_read 68 = .ok (.aload_n 0, 1) := by decide +kernel
theorem dX2_read_69 : decode cX2_read 69 = .ok (.invokevirtual 61, 3) := by decide +kernel
theorem dX2_read_72 : decode cX2_read 72 = .ok (.istore_n 3, 1) := by decide +kernel
theorem dX2_read_73 : decode cX2_read 73 = .ok (.goto 25, 3) := by decide +kernel
theorem dX2_read_76 : decode cX2_read 76 = .ok (.aload_n 0, 1) := by decide +kernel
theorem dX2_read_77 : decode cX2_read 77 = .ok (.ldc 64, 2) := by decide +kernel
theorem dX2_read_79 : decode cX2_read 79 = .ok (.invokevirtual 51, 3) := by decide +kernel
theorem dX2_read_82 : decode cX2_read 82 = .ok (.ifCond .eq 14, 3) := by decide +kernel
theorem dX2_read_85 : decode cX2_read 85 = .ok (.aload_n 0, 1) := by decide +kernel
theorem dX2_read_86 : decode cX2_read 86 = .ok (.invokevirtual 66, 3) := by decide +kernel
theorem dX2_read_89 : decode cX2_read 89 = .ok (.ifCond .eq 7, 3) := by decide +kernel
theorem dX2_read_92 : decode cX2_read 92 = .ok (.iconst 1, 1) := by decide +kernel
theorem dX2_read_93 : decode cX2_read 93 = .ok (.goto 4, 3) := by decide +kernel
theorem dX2_read_96 : decode cX2_read 96 = .ok (.iconst 0, 1) := by decide +kernel
theorem dX2_read_97 : decode cX2_read 97 = .ok (.istore_n 3, 1) := by decide +kernel
theorem dX2_read_98 : decode cX2_read 98 = .ok (.iload_n 3, 1) := by decide +kernel
theorem dX2_read_99 : decode cX2_read 99 = .ok (.ifCond .ne 6, 3) := by decide +kernel
theorem dX2_read_102 : decode cX2_read 102 = .ok (.goto 9, 3) := by decide +kernel
theorem dX2_read_105 : decode cX2_read 105 = .ok (.iinc 2 1, 3) := by decide +kernel
theorem dX2_read_108 : decode cX2_read 108 = .ok (.goto (-89), 3) := by decide +kernel
theorem dX2_read_111 : decode cX2_read 111 = .ok (.sipush (-1000), 3) := by decide +kernel
theorem dX2_read_114 : decode cX2_read 114 = .ok (.aload_n 0, 1) := by decide +kernel
theorem dX2_read_115 : decode cX2_read 115 = .ok (.getfield 31, 3) := by decide +kernel
theorem dX2_read_118 : decode cX2_read 118 = .ok (.isub, 1) := by decide +kernel
theorem dX2_read_119 : decode cX2_read 119 = .ok (.ireturn, 1) := by decide +kernel
theorem dX2_readChapter_0 : decode cX2_readChapter 0 = .ok (.aload_n 0, 1) := by decide +kernel
theorem dX2_readChapter_1 : decode cX2_readChapter 1 = .ok (.invokevirtual 42, 3) := by decide +kernel
theorem dX2_readChapter_4 : decode cX2_readChapter 4 = .ok (.aload_n 0, 1) := by decide +kernel
theorem dX2_readChapter_5 : decode cX2_readChapter 5 = .ok (.getfield 12, 3) := by decide +kernel
theorem dX2_readChapter_8 : decode cX2_readChapter 8 = .ok (.aload_n 0, 1) := by decide +kernel
theorem dX2_readChapter_9 : decode cX2_readChapter 9 = .ok (.getfield 31, 3) := by decide +kernel
theorem dX2_readChapter_12 : decode cX2_readChapter 12 = .ok (.invokevirtual 69, 3) := by decide +kernel
theorem dX2_readChapter_15 : decode cX2_readChapter 15 = .ok (.bipush 48, 2) := by decide +kernel
theorem dX2_readChapter_17 : decode cX2_readChapter 17 = .ok (.isub, 1) := by decide +kernel
theorem dX2_readChapter_18 : decode cX2_readChapter 18 = .ok (.istore_n 1, 1) := by decide +kernel
theorem dX2_readChapter_19 : decode cX2_readChapter 19 = .ok (.aload_n 0, 1) := by decide +kernel
theorem dX2_readChapter_20 : decode cX2_readChapter 20 = .ok (.getfield 21, 3) := by decide +kernel
theorem dX2_readChapter_23 : decode cX2_readChapter 23 = .ok (.getfield 73, 3) := by decide +kernel
theorem dX2_readChapter_26 : decode cX2_readChapter 26 = .ok (.iload_n 1, 1) := by decide +kernel
theorem dX2_readChapter_27 : decode cX2_readChapter 27 = .ok (.invokevirtual 77, 3) := by decide +kernel
theorem dX2_readChapter_30 : decode cX2_readChapter 30 = .ok (.ifCond .ne 5, 3) := by decide +kernel
theorem dX2_readChapter_33 : decode cX2_readChapter 33 = .ok (.iconst 0, 1) := by decide +kernel
theorem dX2_readChapter_34 : decode cX2_readChapter 34 = .ok (.ireturn, 1) := by decide +kernel
theorem dX2_readChapter_35 : decode cX2_readChapter 35 = .ok (.aload_n 0, 1) := by decide +kernel
theorem dX2_readChapter_36 : decode cX2_readChapter 36 = .ok (.invokevirtual 42, 3) := by decide +kernel
theorem dX2_readChapter_39 : decode cX2_readChapter 39 = .ok (.aload_n 0, 1) := by decide +kernel
theorem dX2_readChapter_40 : decode cX2_readChapter 40 = .ok (.bipush 58, 2) := by decide +kernel
theorem dX2_readChapter_42 : decode cX2_readChapter 42 = .ok (.invokevirtual 83, 3) := by decide +kernel
theorem dX2_readChapter_45 : decode cX2_readChapter 45 = .ok (.ifCond .ne 5, 3) := by decide +kernel
theorem dX2_readChapter_48 : decode cX2_readChapter 48 = .ok (.iconst 0, 1) := by decide +kernel
theorem dX2_readChapter_49 : decode cX2_readChapter 49 = .ok (.ireturn, 1) := by decide +kernel
theorem dX2_readChapter_50 : decode cX2_readChapter 50 = .ok (.aload_n 0, 1) := by decide +kernel
theorem dX2_readChapter_51 : decode cX2_readChapter 51 = .ok (.getfield 21, 3) := by decide +kernel
theorem dX2_readChapter_54 : decode cX2_readChapter 54 = .ok (.getfield 73, 3) := by decide +kernel
theorem dX2_readChapter_57 : decode cX2_readChapter 57 = .ok (.iload_n 1, 1) := by decide +kernel
theorem dX2_readChapter_58 : decode cX2_readChapter 58 = .ok (.invokevirtual 86, 3) := by decide +kernel
theorem dX2_readChapter_61 : decode cX2_readChapter 61 = .ok (.iconst 0, 1) := by decide +kernel
theorem dX2_readChapter_62 : decode cX2_readChapter 62 = .ok (.istore_n 2, 1) := by decide +kernel
theorem dX2_readChapter_63 : decode cX2_readChapter 63 = .ok (.iload_n 2, 1) := by decide +kernel
theorem dX2_readChapter_64 : decode cX2_readChapter 64 = .ok (.bipush 40, 2) := by decide +kernel
theorem dX2_readChapter_66 : decode cX2_readChapter 66 = .ok (.if_icmp .ge 42, 3) := by decide +kernel
theorem dX2_readChapter_69 : decode cX2_readChapter 69 = .ok (.aload_n 0, 1) := by decide +kernel
theorem dX2_readChapter_70 : decode cX2_readChapter 70 = .ok (.invokevirtual 90, 3) := by decide +kernel
theorem dX2_readChapter_73 : decode cX2_readChapter 73 = .ok (.ifCond .eq 35, 3) := by decide +kernel
theorem dX2_readChapter_76 : decode cX2_readChapter 76 = .ok (.aload_n 0, 1) := by decide +kernel
theorem dX2_readChapter_77 : decode cX2_readChapter 77 = .ok (.invokevirtual 93, 3) := by decide +kernel
theorem dX2_readChapter_80 : decode cX2_readChapter 80 = .ok (.istore_n 3, 1) := by decide +kernel
theorem dX2_readChapter_81 : decode cX2_readChapter 81 = .ok (.iload_n 3, 1) := by decide +kernel
theorem dX2_readChapter_82 : decode cX2_readChapter 82 = .ok (.bipush (-99), 2) := by decide +kernel
theorem dX2_readChapter_84 : decode cX2_readChapter 84 = .ok (.if_icmp .ne 5, 3) := by decide +kernel
theorem dX2_readChapter_87 : decode cX2_readChapter 87 = .ok (.iconst 0, 1) := by decide +kernel
theorem dX2_readChapter_88 : decode cX2_readChapter 88 = .ok (.ireturn, 1) := by decide +kernel
theorem dX2_readChapter_89 : decode cX2_readChapter 89 = .ok (.aload_n 0, 1) := by decide +kernel
theorem dX2_readChapter_90 : decode cX2_readChapter 90 = .ok (.getfield 21, 3) := by decide +kernel
theorem dX2_readChapter_93 : decode cX2_readChapter 93 = .ok (.getfield 73, 3) := by decide +kernel
theorem dX2_readChapter_96 : decode cX2_readChapter 96 = .ok (.iload_n 1, 1) := by decide +kernel
theorem dX2_readChapter_97 : decode cX2_readChapter 97 = .ok (.iload_n 2, 1) := by decide +kernel
theorem dX2_readChapter_98 : decode cX2_readChapter 98 = .ok (.iload_n 3, 1) := by decide +kernel
theorem dX2_readChapter_99 : decode cX2_readChapter 99 = .ok (.invokevirtual 96, 3) := by decide +kernel
theorem dX2_readChapter_102 : decode cX2_readChapter 102 = .ok (.iinc 2 1, 3) := by decide +kernel
theorem dX2_readChapter_105 : decode cX2_readChapter 105 = .ok (.goto (-42), 3) := by decide +kernel
theorem dX2_readChapter_108 : decode cX2_readChapter 108 = .ok (.aload_n 0, 1) := by decide +kernel
theorem dX2_readChapter_109 : decode cX2_readChapter 109 = .ok (.bipush 59, 2) := by decide +kernel
theorem dX2_readChapter_111 : decode cX2_readChapter 111 = .ok (.invokevirtual 83, 3) := by decide +kernel
theorem dX2_readChapter_114 : decode cX2_readChapter 114 = .ok (.ireturn, 1) := by decide +kernel
theorem dX2_readTerm_0 : decode cX2_readTerm 0 = .ok (.aload_n 0, 1) := by decide +kernel
theorem dX2_readTerm_1 : decode cX2_readTerm 1 = .ok (.invokevirtual 42, 3) := by decide +kernel
theorem dX2_readTerm_4 : decode cX2_readTerm 4 = .ok (.iconst 0, 1) := by decide +kernel
theorem dX2_readTerm_5 : decode cX2_readTerm 5 = .ok (.istore_n 1, 1) := by decide +kernel
theorem dX2_readTerm_6 : decode cX2_readTerm 6 = .ok (.iload_n 1, 1) := by decide +kernel
theorem dX2_readTerm_7 : decode cX2_readTerm 7 = .ok (.iconst 4, 1) := by decide +kernel
theorem dX2_readTerm_8 : decode cX2_readTerm 8 = .ok (.if_icmp .ge 36, 3) := by decide +kernel
theorem dX2_readTerm_11 : decode cX2_readTerm 11 = .ok (.aload_n 0, 1) := by decide +kernel
theorem dX2_readTerm_12 : decode cX2_readTerm 12 = .ok (.invokevirtual 90, 3) := by decide +kernel
theorem dX2_readTerm_15 : decode cX2_readTerm 15 = .ok (.ifCond .eq 29, 3) := by decide +kernel
theorem dX2_readTerm_18 : decode cX2_readTerm 18 = .ok (.aload_n 0, 1) := by decide +kernel
theorem dX2_readTerm_19 : decode cX2_readTerm 19 = .ok (.invokevirtual 93, 3) := by decide +kernel
theorem dX2_readTerm_22 : decode cX2_readTerm 22 = .ok (.istore_n 2, 1) := by decide +kernel
theorem dX2_readTerm_23 : decode cX2_readTerm 23 = .ok (.iload_n 2, 1) := by decide +kernel
theorem dX2_readTerm_24 : decode cX2_readTerm 24 = .ok (.bipush (-99), 2) := by decide +kernel
theorem dX2_readTerm_26 : decode cX2_readTerm 26 = .ok (.if_icmp .ne 5, 3) := by decide +kernel
theorem dX2_readTerm_29 : decode cX2_readTerm 29 = .ok (.iconst 0, 1) := by decide +kernel
theorem dX2_readTerm_30 : decode cX2_readTerm 30 = .ok (.ireturn, 1) := by decide +kernel
theorem dX2_readTerm_31 : decode cX2_readTerm 31 = .ok (.aload_n 0, 1) := by decide +kernel
theorem dX2_readTerm_32 : decode cX2_readTerm 32 = .ok (.getfield 27, 3) := by decide +kernel
theorem dX2_readTerm_35 : decode cX2_readTerm 35 = .ok (.iload_n 1, 1) := by decide +kernel
theorem dX2_readTerm_36 : decode cX2_readTerm 36 = .ok (.iload_n 2, 1) := by decide +kernel
theorem dX2_readTerm_37 : decode cX2_readTerm 37 = .ok (.iastore, 1) := by decide +kernel
theorem dX2_readTerm_38 : decode cX2_readTerm 38 = .ok (.iinc 1 1, 3) := by decide +kernel
theorem dX2_readTerm_41 : decode cX2_readTerm 41 = .ok (.goto (-35), 3) := by decide +kernel
theorem dX2_readTerm_44 : decode cX2_readTerm 44 = .ok (.iload_n 1, 1) := by decide +kernel
theorem dX2_readTerm_45 : decode cX2_readTerm 45 = .ok (.ifCond .eq 19, 3) := by decide +kernel
theorem dX2_readTerm_48 : decode cX2_readTerm 48 = .ok (.aload_n 0, 1) := by decide +kernel
theorem dX2_readTerm_49 : decode cX2_readTerm 49 = .ok (.getfield 12, 3) := by decide +kernel
theorem dX2_readTerm_52 : decode cX2_readTerm 52 = .ok (.aload_n 0, 1) := by decide +kernel
theorem dX2_readTerm_53 : decode cX2_readTerm 53 = .ok (.getfield 31, 3) := by decide +kernel
theorem dX2_readTerm_56 : decode cX2_readTerm 56 = .ok (.invokevirtual 69, 3) := by decide +kernel
theorem dX2_readTerm_59 : decode cX2_readTerm 59 = .ok (.bipush 59, 2) := by decide +kernel
theorem dX2_readTerm_61 : decode cX2_readTerm 61 = .ok (.if_icmp .eq 5, 3) := by decide +kernel
theorem dX2_readTerm_64 : decode cX2_readTerm 64 = .ok (.iconst 0, 1) := by decide +kernel
theorem dX2_readTerm_65 : decode cX2_readTerm 65 = .ok (.ireturn, 1) := by decide +kernel
theorem dX2_readTerm_66 : decode cX2_readTerm 66 = .ok (.aload_n 0, 1) := by decide +kernel
theorem dX2_readTerm_67 : decode cX2_readTerm 67 = .ok (.getfield 21, 3) := by decide +kernel
theorem dX2_readTerm_70 : decode cX2_readTerm 70 = .ok (.getfield 100, 3) := by decide +kernel
theorem dX2_readTerm_73 : decode cX2_readTerm 73 = .ok (.invokevirtual 104, 3) := by decide +kernel
theorem dX2_readTerm_76 : decode cX2_readTerm 76 = .ok (.bipush 12, 2) := by decide +kernel
theorem dX2_readTerm_78 : decode cX2_readTerm 78 = .ok (.if_icmp .ge 28, 3) := by decide +kernel
theorem dX2_readTerm_81 : decode cX2_readTerm 81 = .ok (.aload_n 0, 1) := by decide +kernel
theorem dX2_readTerm_82 : decode cX2_readTerm 82 = .ok (.getfield 21, 3) := by decide +kernel
theorem dX2_readTerm_85 : decode cX2_readTerm 85 = .ok (.getfield 100, 3) := by decide +kernel
theorem dX2_readTerm_88 : decode cX2_readTerm 88 = .ok (.aload_n 0, 1) := by decide +kernel
theorem dX2_readTerm_89 : decode cX2_readTerm 89 = .ok (.getfield 21, 3) := by decide +kernel
theorem dX2_readTerm_92 : decode cX2_readTerm 92 = .ok (.getfield 107, 3) := by decide +kernel
theorem dX2_readTerm_95 : decode cX2_readTerm 95 = .ok (.aload_n 0, 1) := by decide +kernel
theorem dX2_readTerm_96 : decode cX2_readTerm 96 = .ok (.getfield 27, 3) := by decide +kernel
theorem dX2_readTerm_99 : decode cX2_readTerm 99 = .ok (.iload_n 1, 1) := by decide +kernel
theorem dX2_readTerm_100 : decode cX2_readTerm 100 = .ok (.invokevirtual 111, 3) := by decide +kernel
theorem dX2_readTerm_103 : decode cX2_readTerm 103 = .ok (.ifCond .eq 5, 3) := by decide +kernel
theorem dX2_readTerm_106 : decode cX2_readTerm 106 = .ok (.iconst 0, 1) := by decide +kernel
theorem dX2_readTerm_107 : decode cX2_readTerm 107 = .ok (.ireturn, 1) := by decide +kernel
theorem dX2_readTerm_108 : decode cX2_readTerm 108 = .ok (.aload_n 0, 1) := by decide +kernel
theorem dX2_readTerm_109 : decode cX2_readTerm 109 = .ok (.getfield 21, 3) := by decide +kernel
theorem dX2_readTerm_112 : decode cX2_readTerm 112 = .ok (.getfield 100, 3) := by decide +kernel
theorem dX2_readTerm_115 : decode cX2_readTerm 115 = .ok (.aload_n 0, 1) := by decide +kernel
theorem dX2_readTerm_116 : decode cX2_readTerm 116 = .ok (.getfield 27, 3) := by decide +kernel
theorem dX2_readTerm_119 : decode cX2_readTerm 119 = .ok (.iload_n 1, 1) := by decide +kernel
theorem dX2_readTerm_120 : decode cX2_readTerm 120 = .ok (.invokevirtual 115, 3) := by decide +kernel
theorem dX2_readTerm_123 : decode cX2_readTerm 123 = .ok (.aload_n 0, 1) := by decide +kernel
theorem dX2_readTerm_124 : decode cX2_readTerm 124 = .ok (.bipush 59, 2) := by decide +kernel
theorem dX2_readTerm_126 : decode cX2_readTerm 126 = .ok (.invokevirtual 83, 3) := by decide +kernel
theorem dX2_readTerm_129 : decode cX2_readTerm 129 = .ok (.ireturn, 1) := by decide +kernel
theorem dX2_readForm_0 : decode cX2_readForm 0 = .ok (.aload_n 0, 1) := by decide +kernel
theorem dX2_readForm_1 : decode cX2_readForm 1 = .ok (.invokevirtual 42, 3) := by decide +kernel
theorem dX2_readForm_4 : decode cX2_readForm 4 = .ok (.aload_n 0, 1) := by decide +kernel
theorem dX2_readForm_5 : decode cX2_readForm 5 = .ok (.invokevirtual 93, 3) := by decide +kernel
theorem dX2_readForm_8 : decode cX2_readForm 8 = .ok (.istore_n 1, 1) := by decide +kernel
theorem dX2_readForm_9 : decode cX2_readForm 9 = .ok (.iload_n 1, 1) := by decide +kernel
theorem dX2_readForm_10 : decode cX2_readForm 10 = .ok (.bipush (-99), 2) := by decide +kernel
theorem dX2_readForm_12 : decode cX2_readForm 12 = .ok (.if_icmp .eq 12, 3) := by decide +kernel
theorem dX2_readForm_15 : decode cX2_readForm 15 = .ok (.aload_n 0, 1) := by decide +kernel
theorem dX2_readForm_16 : decode cX2_readForm 16 = .ok (.bipush 61, 2) := by decide +kernel
theorem dX2_readForm_18 : decode cX2_readForm 18 = .ok (.invokevirtual 83, 3) := by decide +kernel
theorem dX2_readForm_21 : decode cX2_readForm 21 = .ok (.ifCond .ne 5, 3) := by decide +kernel
theorem dX2_readForm_24 : decode cX2_readForm 24 = .ok (.iconst 0, 1) := by decide +kernel
theorem dX2_readForm_25 : decode cX2_readForm 25 = .ok (.ireturn, 1) := by decide +kernel
theorem dX2_readForm_26 : decode cX2_readForm 26 = .ok (.aload_n 0, 1) := by decide +kernel
theorem dX2_readForm_27 : decode cX2_readForm 27 = .ok (.invokevirtual 93, 3) := by decide +kernel
theorem dX2_readForm_30 : decode cX2_readForm 30 = .ok (.istore_n 2, 1) := by decide +kernel
theorem dX2_readForm_31 : decode cX2_readForm 31 = .ok (.iload_n 2, 1) := by decide +kernel
theorem dX2_readForm_32 : decode cX2_readForm 32 = .ok (.bipush (-99), 2) := by decide +kernel
theorem dX2_readForm_34 : decode cX2_readForm 34 = .ok (.if_icmp .eq 19, 3) := by decide +kernel
theorem dX2_readForm_37 : decode cX2_readForm 37 = .ok (.aload_n 0, 1) := by decide +kernel
theorem dX2_readForm_38 : decode cX2_readForm 38 = .ok (.getfield 12, 3) := by decide +kernel
theorem dX2_readForm_41 : decode cX2_readForm 41 = .ok (.aload_n 0, 1) := by decide +kernel
theorem dX2_readForm_42 : decode cX2_readForm 42 = .ok (.getfield 31, 3) := by decide +kernel
theorem dX2_readForm_45 : decode cX2_readForm 45 = .ok (.invokevirtual 69, 3) := by decide +kernel
theorem dX2_readForm_48 : decode cX2_readForm 48 = .ok (.bipush 59, 2) := by decide +kernel
theorem dX2_readForm_50 : decode cX2_readForm 50 = .ok (.if_icmp .eq 5, 3) := by decide +kernel
theorem dX2_readForm_53 : decode cX2_readForm 53 = .ok (.iconst 0, 1) := by decide +kernel
theorem dX2_readForm_54 : decode cX2_readForm 54 = .ok (.ireturn, 1) := by decide +kernel
theorem dX2_readForm_55 : decode cX2_readForm 55 = .ok (.aload_n 0, 1) := by decide +kernel
theorem dX2_readForm_56 : decode cX2_readForm 56 = .ok (.getfield 21, 3) := by decide +kernel
theorem dX2_readForm_59 : decode cX2_readForm 59 = .ok (.getfield 107, 3) := by decide +kernel
theorem dX2_readForm_62 : decode cX2_readForm 62 = .ok (.iload_n 2, 1) := by decide +kernel
theorem dX2_readForm_63 : decode cX2_readForm 63 = .ok (.invokevirtual 119, 3) := by decide +kernel
theorem dX2_readForm_66 : decode cX2_readForm 66 = .ok (.istore_n 3, 1) := by decide +kernel
theorem dX2_readForm_67 : decode cX2_readForm 67 = .ok (.aload_n 0, 1) := by decide +kernel
theorem dX2_readForm_68 : decode cX2_readForm 68 = .ok (.getfield 21, 3) := by decide +kernel
theorem dX2_readForm_71 : decode cX2_readForm 71 = .ok (.iload_n 1, 1) := by decide +kernel
theorem dX2_readForm_72 : decode cX2_readForm 72 = .ok (.iload_n 3, 1) := by decide +kernel
theorem dX2_readForm_73 : decode cX2_readForm 73 = .ok (.invokevirtual 124, 3) := by decide +kernel
theorem dX2_readForm_76 : decode cX2_readForm 76 = .ok (.ifCond .ne 5, 3) := by decide +kernel
theorem dX2_readForm_79 : decode cX2_readForm 79 = .ok (.iconst 0, 1) := by decide +kernel
theorem dX2_readForm_80 : decode cX2_readForm 80 = .ok (.ireturn, 1) := by decide +kernel
theorem dX2_readForm_81 : decode cX2_readForm 81 = .ok (.aload_n 0, 1) := by decide +kernel
theorem dX2_readForm_82 : decode cX2_readForm 82 = .ok (.getfield 21, 3) := by decide +kernel
theorem dX2_readForm_85 : decode cX2_readForm 85 = .ok (.getfield 107, 3) := by decide +kernel
theorem dX2_readForm_88 : decode cX2_readForm 88 = .ok (.iload_n 1, 1) := by decide +kernel
theorem dX2_readForm_89 : decode cX2_readForm 89 = .ok (.iload_n 3, 1) := by decide +kernel
theorem dX2_readForm_90 : decode cX2_readForm 90 = .ok (.invokevirtual 128, 3) := by decide +kernel
theorem dX2_readForm_93 : decode cX2_readForm 93 = .ok (.aload_n 0, 1) := by decide +kernel
theorem dX2_readForm_94 : decode cX2_readForm 94 = .ok (.bipush 59, 2) := by decide +kernel
theorem dX2_readForm_96 : decode cX2_readForm 96 = .ok (.invokevirtual 83, 3) := by decide +kernel
theorem dX2_readForm_99 : decode cX2_readForm 99 = .ok (.ireturn, 1) := by decide +kernel
theorem dX2_readWord_0 : decode cX2_readWord 0 = .ok (.aload_n 0, 1) := by decide +kernel
theorem dX2_readWord_1 : decode cX2_readWord 1 = .ok (.invokevirtual 90, 3) := by decide +kernel
theorem dX2_readWord_4 : decode cX2_readWord 4 = .ok (.ifCond .eq 17, 3) := by decide +kernel
theorem dX2_readWord_7 : decode cX2_readWord 7 = .ok (.aload_n 0, 1) := by decide +kernel
theorem dX2_readWord_8 : decode cX2_readWord 8 = .ok (.getfield 35, 3) := by decide +kernel
theorem dX2_readWord_11 : decode cX2_readWord 11 = .ok (.aload_n 0, 1) := by decide +kernel
theorem dX2_readWord_12 : decode cX2_readWord 12 = .ok (.getfield 31, 3) := by decide +kernel
theorem dX2_readWord_15 : decode cX2_readWord 15 = .ok (.isub, 1) := by decide +kernel
theorem dX2_readWord_16 : decode cX2_readWord 16 = .ok (.bipush 8, 2) := by decide +kernel
theorem dX2_readWord_18 : decode cX2_readWord 18 = .ok (.if_icmp .le 6, 3) := by decide +kernel
theorem dX2_readWord_21 : decode cX2_readWord 21 = .ok (.bipush (-99), 2) := by decide +kernel
theorem dX2_readWord_23 : decode cX2_readWord 23 = .ok (.ireturn, 1) := by decide +kernel
theorem dX2_readWord_24 : decode cX2_readWord 24 = .ok (.lconst 0, 1) := by decide +kernel
theorem dX2_readWord_25 : decode cX2_readWord 25 = .ok (.lstore_n 1, 1) := by decide +kernel
theorem dX2_readWord_26 : decode cX2_readWord 26 = .ok (.aload_n 0, 1) := by decide +kernel
theorem dX2_readWord_27 : decode cX2_readWord 27 = .ok (.getfield 31, 3) := by decide +kernel
theorem dX2_readWord_30 : decode cX2_readWord 30 = .ok (.istore_n 3, 1) := by decide +kernel
theorem dX2_readWord_31 : decode cX2_readWord 31 = .ok (.iload_n 3, 1) := by decide +kernel
theorem dX2_readWord_32 : decode cX2_readWord 32 = .ok (.aload_n 0, 1) := by decide +kernel
theorem dX2_readWord_33 : decode cX2_readWord 33 = .ok (.getfield 35, 3) := by decide +kernel
theorem dX2_readWord_36 : decode cX2_readWord 36 = .ok (.if_icmp .ge 28, 3) := by decide +kernel
theorem dX2_readWord_39 : decode cX2_readWord 39 = .ok (.lload_n 1, 1) := by decide +kernel
theorem dX2_readWord_40 : decode cX2_readWord 40 = .ok (.iload_n 3, 1) := by decide +kernel
theorem dX2_readWord_41 : decode cX2_readWord 41 = .ok (.aload_n 0, 1) := by decide +kernel
theorem dX2_readWord_42 : decode cX2_readWord 42 = .ok (.getfield 31, 3) := by decide +kernel
theorem dX2_readWord_45 : decode cX2_readWord 45 = .ok (.isub, 1) := by decide +kernel
theorem dX2_readWord_46 : decode cX2_readWord 46 = .ok (.aload_n 0, 1) := by decide +kernel
theorem dX2_readWord_47 : decode cX2_readWord 47 = .ok (.getfield 12, 3) := by decide +kernel
theorem dX2_readWord_50 : decode cX2_readWord 50 = .ok (.iload_n 3, 1) := by decide +kernel
theorem dX2_readWord_51 : decode cX2_readWord 51 = .ok (.invokevirtual 69, 3) := by decide +kernel
theorem dX2_readWord_54 : decode cX2_readWord 54 = .ok (.invokestatic 132, 3) := by decide +kernel
theorem dX2_readWord_57 : decode cX2_readWord 57 = .ok (.lstore_n 1, 1) := by decide +kernel
theorem dX2_readWord_58 : decode cX2_readWord 58 = .ok (.iinc 3 1, 3) := by decide +kernel
theorem dX2_readWord_61 : decode cX2_readWord 61 = .ok (.goto (-30), 3) := by decide +kernel
theorem dX2_readWord_64 : decode cX2_readWord 64 = .ok (.aload_n 0, 1) := by decide +kernel
theorem dX2_readWord_65 : decode cX2_readWord 65 = .ok (.getfield 21, 3) := by decide +kernel
theorem dX2_readWord_68 : decode cX2_readWord 68 = .ok (.getfield 107, 3) := by decide +kernel
theorem dX2_readWord_71 : decode cX2_readWord 71 = .ok (.lload_n 1, 1) := by decide +kernel
theorem dX2_readWord_72 : decode cX2_readWord 72 = .ok (.invokevirtual 136, 3) := by decide +kernel
theorem dX2_readWord_75 : decode cX2_readWord 75 = .ok (.istore_n 3, 1) := by decide +kernel
theorem dX2_readWord_76 : decode cX2_readWord 76 = .ok (.iload_n 3, 1) := by decide +kernel
theorem dX2_readWord_77 : decode cX2_readWord 77 = .ok (.bipush (-99), 2) := by decide +kernel
theorem dX2_readWord_79 : decode cX2_readWord 79 = .ok (.if_icmp .ne 15, 3) := by decide +kernel
theorem dX2_readWord_82 : decode cX2_readWord 82 = .ok (.aload_n 0, 1) := by decide +kernel
theorem dX2_readWord_83 : decode cX2_readWord 83 = .ok (.getfield 21, 3) := by decide +kernel
theorem dX2_readWord_86 : decode cX2_readWord 86 = .ok (.getfield 107, 3) := by decide +kernel
theorem dX2_readWord_89 : decode cX2_readWord 89 = .ok (.lload_n 1, 1) := by decide +kernel
theorem dX2_readWord_90 : decode cX2_readWord 90 = .ok (.invokevirtual 140, 3) := by decide +kernel
theorem dX2_readWord_93 : decode cX2_readWord 93 = .ok (.istore_n 3, 1) := by decide +kernel
theorem dX2_readWord_94 : decode cX2_readWord 94 = .ok (.iload_n 3, 1) := by decide +kernel
theorem dX2_readWord_95 : decode cX2_readWord 95 = .ok (.bipush (-99), 2) := by decide +kernel
theorem dX2_readWord_97 : decode cX2_readWord 97 = .ok (.if_icmp .eq 7, 3) := by decide +kernel
theorem dX2_readWord_100 : decode cX2_readWord 100 = .ok (.aload_n 0, 1) := by decide +kernel
theorem dX2_readWord_101 : decode cX2_readWord 101 = .ok (.invokevirtual 42, 3) := by decide +kernel
theorem dX2_readWord_104 : decode cX2_readWord 104 = .ok (.iload_n 3, 1) := by decide +kernel
theorem dX2_readWord_105 : decode cX2_readWord 105 = .ok (.ireturn, 1) := by decide +kernel
theorem dX2_pass_0 : decode cX2_pass 0 = .ok (.aload_n 0, 1) := by decide +kernel
theorem dX2_pass_1 : decode cX2_pass 1 = .ok (.getfield 12, 3) := by decide +kernel
theorem dX2_pass_4 : decode cX2_pass 4 = .ok (.aload_n 0, 1) := by decide +kernel
theorem dX2_pass_5 : decode cX2_pass 5 = .ok (.getfield 31, 3) := by decide +kernel
theorem dX2_pass_8 : decode cX2_pass 8 = .ok (.invokevirtual 69, 3) := by decide +kernel
theorem dX2_pass_11 : decode cX2_pass 11 = .ok (.iload_n 1, 1) := by decide +kernel
theorem dX2_pass_12 : decode cX2_pass 12 = .ok (.if_icmp .eq 5, 3) := by decide +kernel
theorem dX2_pass_15 : decode cX2_pass 15 = .ok (.iconst 0, 1) := by decide +kernel
theorem dX2_pass_16 : decode cX2_pass 16 = .ok (.ireturn, 1) := by decide +kernel
theorem dX2_pass_17 : decode cX2_pass 17 = .ok (.aload_n 0, 1) := by decide +kernel
theorem dX2_pass_18 : decode cX2_pass 18 = .ok (.invokevirtual 42, 3) := by decide +kernel
theorem dX2_pass_21 : decode cX2_pass 21 = .ok (.iconst 1, 1) := by decide +kernel
theorem dX2_pass_22 : decode cX2_pass 22 = .ok (.ireturn, 1) := by decide +kernel
theorem dX2_isRun_0 : decode cX2_isRun 0 = .ok (.aload_n 0, 1) := by decide +kernel
theorem dX2_isRun_1 : decode cX2_isRun 1 = .ok (.getfield 12, 3) := by decide +kernel
theorem dX2_isRun_4 : decode cX2_isRun 4 = .ok (.aload_n 0, 1) := by decide +kernel
theorem dX2_isRun_5 : decode cX2_isRun 5 = .ok (.getfield 31, 3) := by decide +kernel
theorem dX2_isRun_8 : decode cX2_isRun 8 = .ok (.invokevirtual 69, 3) := by decide +kernel
theorem dX2_isRun_11 : decode cX2_isRun 11 = .ok (.invokestatic 142, 3) := by decide +kernel
theorem dX2_isRun_14 : decode cX2_isRun 14 = .ok (.ireturn, 1) := by decide +kernel
theorem dX2_isWord_0 : decode cX2_isWord 0 = .ok (.aload_n 0, 1) := by decide +kernel
theorem dX2_isWord_1 : decode cX2_isWord 1 = .ok (.getfield 35, 3) := by decide +kernel
theorem dX2_isWord_4 : decode cX2_isWord 4 = .ok (.aload_n 0, 1) := by decide +kernel
theorem dX2_isWord_5 : decode cX2_isWord 5 = .ok (.getfield 31, 3) := by decide +kernel
theorem dX2_isWord_8 : decode cX2_isWord 8 = .ok (.isub, 1) := by decide +kernel
theorem dX2_isWord_9 : decode cX2_isWord 9 = .ok (.aload_n 1, 1) := by decide +kernel
theorem dX2_isWord_10 : decode cX2_isWord 10 = .ok (.invokevirtual 145, 3) := by decide +kernel
theorem dX2_isWord_13 : decode cX2_isWord 13 = .ok (.if_icmp .eq 5, 3) := by decide +kernel
theorem dX2_isWord_16 : decode cX2_isWord 16 = .ok (.iconst 0, 1) := by decide +kernel
theorem dX2_isWord_17 : decode cX2_isWord 17 = .ok (.ireturn, 1) := by decide +kernel
theorem dX2_isWord_18 : decode cX2_isWord 18 = .ok (.iconst 0, 1) := by decide +kernel
theorem dX2_isWord_19 : decode cX2_isWord 19 = .ok (.istore_n 2, 1) := by decide +kernel
theorem dX2_isWord_20 : decode cX2_isWord 20 = .ok (.iload_n 2, 1) := by decide +kernel
theorem dX2_isWord_21 : decode cX2_isWord 21 = .ok (.aload_n 1, 1) := by decide +kernel
theorem dX2_isWord_22 : decode cX2_isWord 22 = .ok (.invokevirtual 145, 3) := by decide +kernel
theorem dX2_isWord_25 : decode cX2_isWord 25 = .ok (.if_icmp .ge 32, 3) := by decide +kernel
theorem dX2_isWord_28 : decode cX2_isWord 28 = .ok (.aload_n 0, 1) := by decide +kernel
theorem dX2_isWord_29 : decode cX2_isWord 29 = .ok (.getfield 12, 3) := by decide +kernel
theorem dX2_isWord_32 : decode cX2_isWord 32 = .ok (.aload_n 0, 1) := by decide +kernel
theorem dX2_isWord_33 : decode cX2_isWord 33 = .ok (.getfield 31, 3) := by decide +kernel
theorem dX2_isWord_36 : decode cX2_isWord 36 = .ok (.iload_n 2, 1) := by decide +kernel
theorem dX2_isWord_37 : decode cX2_isWord 37 = .ok (.iadd, 1) := by decide +kernel
theorem dX2_isWord_38 : decode cX2_isWord 38 = .ok (.invokevirtual 69, 3) := by decide +kernel
theorem dX2_isWord_41 : decode cX2_isWord 41 = .ok (.aload_n 1, 1) := by decide +kernel
theorem dX2_isWord_42 : decode cX2_isWord 42 = .ok (.iload_n 2, 1) := by decide +kernel
theorem dX2_isWord_43 : decode cX2_isWord 43 = .ok (.invokevirtual 148, 3) := by decide +kernel
theorem dX2_isWord_46 : decode cX2_isWord 46 = .ok (.if_icmp .eq 5, 3) := by decide +kernel
theorem dX2_isWord_49 : decode cX2_isWord 49 = .ok (.iconst 0, 1) := by decide +kernel
theorem dX2_isWord_50 : decode cX2_isWord 50 = .ok (.ireturn, 1) := by decide +kernel
theorem dX2_isWord_51 : decode cX2_isWord 51 = .ok (.iinc 2 1, 3) := by decide +kernel
theorem dX2_isWord_54 : decode cX2_isWord 54 = .ok (.goto (-34), 3) := by decide +kernel
theorem dX2_isWord_57 : decode cX2_isWord 57 = .ok (.iconst 1, 1) := by decide +kernel
theorem dX2_isWord_58 : decode cX2_isWord 58 = .ok (.ireturn, 1) := by decide +kernel
theorem dX2_step_0 : decode cX2_step 0 = .ok (.aload_n 0, 1) := by decide +kernel
theorem dX2_step_1 : decode cX2_step 1 = .ok (.aload_n 0, 1) := by decide +kernel
theorem dX2_step_2 : decode cX2_step 2 = .ok (.getfield 35, 3) := by decide +kernel
theorem dX2_step_5 : decode cX2_step 5 = .ok (.putfield 31, 3) := by decide +kernel
theorem dX2_step_8 : decode cX2_step 8 = .ok (.aload_n 0, 1) := by decide +kernel
theorem dX2_step_9 : decode cX2_step 9 = .ok (.getfield 31, 3) := by decide +kernel
theorem dX2_step_12 : decode cX2_step 12 = .ok (.aload_n 0, 1) := by decide +kernel
theorem dX2_step_13 : decode cX2_step 13 = .ok (.getfield 12, 3) := by decide +kernel
theorem dX2_step_16 : decode cX2_step 16 = .ok (.invokevirtual 45, 3) := by decide +kernel
theorem dX2_step_19 : decode cX2_step 19 = .ok (.if_icmp .ge 32, 3) := by decide +kernel
theorem dX2_step_22 : decode cX2_step 22 = .ok (.aload_n 0, 1) := by decide +kernel
theorem dX2_step_23 : decode cX2_step 23 = .ok (.getfield 12, 3) := by decide +kernel
theorem dX2_step_26 : decode cX2_step 26 = .ok (.aload_n 0, 1) := by decide +kernel
theorem dX2_step_27 : decode cX2_step 27 = .ok (.getfield 31, 3) := by decide +kernel
theorem dX2_step_30 : decode cX2_step 30 = .ok (.invokevirtual 69, 3) := by decide +kernel
theorem dX2_step_33 : decode cX2_step 33 = .ok (.bipush 32, 2) := by decide +kernel
theorem dX2_step_35 : decode cX2_step 35 = .ok (.if_icmp .ne 16, 3) := by decide +kernel
theorem dX2_step_38 : decode cX2_step 38 = .ok (.aload_n 0, 1) := by decide +kernel
theorem dX2_step_39 : decode cX2_step 39 = .ok (.dup, 1) := by decide +kernel
theorem dX2_step_40 : decode cX2_step 40 = .ok (.getfield 31, 3) := by decide +kernel
theorem dX2_step_43 : decode cX2_step 43 = .ok (.iconst 1, 1) := by decide +kernel
theorem dX2_step_44 : decode cX2_step 44 = .ok (.iadd, 1) := by decide +kernel
theorem dX2_step_45 : decode cX2_step 45 = .ok (.putfield 31, 3) := by decide +kernel
theorem dX2_step_48 : decode cX2_step 48 = .ok (.goto (-40), 3) := by decide +kernel
theorem dX2_step_51 : decode cX2_step 51 = .ok (.aload_n 0, 1) := by decide +kernel
theorem dX2_step_52 : decode cX2_step 52 = .ok (.aload_n 0, 1) := by decide +kernel
theorem dX2_step_53 : decode cX2_step 53 = .ok (.getfield 31, 3) := by decide +kernel
theorem dX2_step_56 : decode cX2_step 56 = .ok (.putfield 35, 3) := by decide +kernel
theorem dX2_step_59 : decode cX2_step 59 = .ok (.aload_n 0, 1) := by decide +kernel
theorem dX2_step_60 : decode cX2_step 60 = .ok (.getfield 35, 3) := by decide +kernel
theorem dX2_step_63 : decode cX2_step 63 = .ok (.aload_n 0, 1) := by decide +kernel
theorem dX2_step_64 : decode cX2_step 64 = .ok (.getfield 12, 3) := by decide +kernel
theorem dX2_step_67 : decode cX2_step 67 = .ok (.invokevirtual 45, 3) := by decide +kernel
theorem dX2_step_70 : decode cX2_step 70 = .ok (.if_icmp .ge 33, 3) := by decide +kernel
theorem dX2_step_73 : decode cX2_step 73 = .ok (.aload_n 0, 1) := by decide +kernel
theorem dX2_step_74 : decode cX2_step 74 = .ok (.getfield 12, 3) := by decide +kernel
theorem dX2_step_77 : decode cX2_step 77 = .ok (.aload_n 0, 1) := by decide +kernel
theorem dX2_step_78 : decode cX2_step 78 = .ok (.getfield 35, 3) := by decide +kernel
theorem dX2_step_81 : decode cX2_step 81 = .ok (.invokevirtual 69, 3) := by decide +kernel
theorem dX2_step_84 : decode cX2_step 84 = .ok (.invokestatic 142, 3) := by decide +kernel
theorem dX2_step_87 : decode cX2_step 87 = .ok (.ifCond .eq 16, 3) := by decide +kernel
theorem dX2_step_90 : decode cX2_step 90 = .ok (.aload_n 0, 1) := by decide +kernel
theorem dX2_step_91 : decode cX2_step 91 = .ok (.dup, 1) := by decide +kernel
theorem dX2_step_92 : decode cX2_step 92 = .ok (.getfield 35, 3) := by decide +kernel
theorem dX2_step_95 : decode cX2_step 95 = .ok (.iconst 1, 1) := by decide +kernel
theorem dX2_step_96 : decode cX2_step 96 = .ok (.iadd, 1) := by decide +kernel
theorem dX2_step_97 : decode cX2_step 97 = .ok (.putfield 35, 3) := by decide +kernel
theorem dX2_step_100 : decode cX2_step 100 = .ok (.goto (-41), 3) := by decide +kernel
theorem dX2_step_103 : decode cX2_step 103 = .ok (.aload_n 0, 1) := by decide +kernel
theorem dX2_step_104 : decode cX2_step 104 = .ok (.getfield 35, 3) := by decide +kernel
theorem dX2_step_107 : decode cX2_step 107 = .ok (.aload_n 0, 1) := by decide +kernel
theorem dX2_step_108 : decode cX2_step 108 = .ok (.getfield 31, 3) := by decide +kernel
theorem dX2_step_111 : decode cX2_step 111 = .ok (.if_icmp .ne 27, 3) := by decide +kernel
theorem dX2_step_114 : decode cX2_step 114 = .ok (.aload_n 0, 1) := by decide +kernel
theorem dX2_step_115 : decode cX2_step 115 = .ok (.getfield 35, 3) := by decide +kernel
theorem dX2_step_118 : decode cX2_step 118 = .ok (.aload_n 0, 1) := by decide +kernel
theorem dX2_step_119 : decode cX2_step 119 = .ok (.getfield 12, 3) := by decide +kernel
theorem dX2_step_122 : decode cX2_step 122 = .ok (.invokevirtual 45, 3) := by decide +kernel
theorem dX2_step_125 : decode cX2_step 125 = .ok (.if_icmp .ge 13, 3) := by decide +kernel
theorem dX2_step_128 : decode cX2_step 128 = .ok (.aload_n 0, 1) := by decide +kernel
theorem dX2_step_129 : decode cX2_step 129 = .ok (.dup, 1) := by decide +kernel
theorem dX2_step_130 : decode cX2_step 130 = .ok (.getfield 35, 3) := by decide +kernel
theorem dX2_step_133 : decode cX2_step 133 = .ok (.iconst 1, 1) := by decide +kernel
theorem dX2_step_134 : decode cX2_step 134 = .ok (.iadd, 1) := by decide +kernel
theorem dX2_step_135 : decode cX2_step 135 = .ok (.putfield 35, 3) := by decide +kernel
theorem dX2_step_138 : decode cX2_step 138 = .ok (.return_, 1) := by decide +kernel
theorem dX2_isLetter_0 : decode cX2_isLetter 0 = .ok (.iload_n 0, 1) := by decide +kernel
theorem dX2_isLetter_1 : decode cX2_isLetter 1 = .ok (.bipush 97, 2) := by decide +kernel
theorem dX2_isLetter_3 : decode cX2_isLetter 3 = .ok (.if_icmp .lt 13, 3) := by decide +kernel
theorem dX2_isLetter_6 : decode cX2_isLetter 6 = .ok (.iload_n 0, 1) := by decide +kernel
theorem dX2_isLetter_7 : decode cX2_isLetter 7 = .ok (.bipush 122, 2) := by decide +kernel
theorem dX2_isLetter_9 : decode cX2_isLetter 9 = .ok (.if_icmp .gt 7, 3) := by decide +kernel
theorem dX2_isLetter_12 : decode cX2_isLetter 12 = .ok (.iconst 1, 1) := by decide +kernel
theorem dX2_isLetter_13 : decode cX2_isLetter 13 = .ok (.goto 4, 3) := by decide +kernel
theorem dX2_isLetter_16 : decode cX2_isLetter 16 = .ok (.iconst 0, 1) := by decide +kernel
theorem dX2_isLetter_17 : decode cX2_isLetter 17 = .ok (.ireturn, 1) := by decide +kernel
theorem dX3_init_0 : decode cX3_init 0 = .ok (.aload_n 0, 1) := by decide +kernel
theorem dX3_init_1 : decode cX3_init 1 = .ok (.invokespecial 7, 3) := by decide +kernel
theorem dX3_init_4 : decode cX3_init 4 = .ok (.aload_n 0, 1) := by decide +kernel
theorem dX3_init_5 : decode cX3_init 5 = .ok (.bipush 6, 2) := by decide +kernel
theorem dX3_init_7 : decode cX3_init 7 = .ok (.bipush 40, 2) := by decide +kernel
theorem dX3_init_9 : decode cX3_init 9 = .ok (.multianewarray 13 2, 4) := by decide +kernel
theorem dX3_init_13 : decode cX3_init 13 = .ok (.putfield 15, 3) := by decide +kernel
theorem dX3_init_16 : decode cX3_init 16 = .ok (.aload_n 0, 1) := by decide +kernel
theorem dX3_init_17 : decode cX3_init 17 = .ok (.bipush 6, 2) := by decide +kernel
theorem dX3_init_19 : decode cX3_init 19 = .ok (.bipush 40, 2) := by decide +kernel
theorem dX3_init_21 : decode cX3_init 21 = .ok (.multianewarray 13 2, 4) := by decide +kernel
theorem dX3_init_25 : decode cX3_init 25 = .ok (.putfield 20, 3) := by decide +kernel
theorem dX3_init_28 : decode cX3_init 28 = .ok (.aload_n 0, 1) := by decide +kernel
theorem dX3_init_29 : decode cX3_init 29 = .ok (.bipush 13, 2) := by decide +kernel
theorem dX3_init_31 : decode cX3_init 31 = .ok (.bipush 6, 2) := by decide +kernel
theorem dX3_init_33 : decode cX3_init 33 = .ok (.multianewarray 13 2, 4) := by decide +kernel
theorem dX3_init_37 : decode cX3_init 37 = .ok (.putfield 23, 3) := by decide +kernel
theorem dX3_init_40 : decode cX3_init 40 = .ok (.aload_n 0, 1) := by decide +kernel
theorem dX3_init_41 : decode cX3_init 41 = .ok (.bipush 13, 2) := by decide +kernel
theorem dX3_init_43 : decode cX3_init 43 = .ok (.newarray .int, 2) := by decide +kernel
theorem dX3_init_45 : decode cX3_init 45 = .ok (.putfield 26, 3) := by decide +kernel
theorem dX3_init_48 : decode cX3_init 48 = .ok (.aload_n 0, 1) := by decide +kernel
theorem dX3_init_49 : decode cX3_init 49 = .ok (.bipush 78, 2) := by decide +kernel
theorem dX3_init_51 : decode cX3_init 51 = .ok (.newarray .int, 2) := by decide +kernel
theorem dX3_init_53 : decode cX3_init 53 = .ok (.putfield 30, 3) := by decide +kernel
theorem dX3_init_56 : decode cX3_init 56 = .ok (.aload_n 0, 1) := by decide +kernel
theorem dX3_init_57 : decode cX3_init 57 = .ok (.bipush 78, 2) := by decide +kernel
theorem dX3_init_59 : decode cX3_init 59 = .ok (.newarray .int, 2) := by decide +kernel
theorem dX3_init_61 : decode cX3_init 61 = .ok (.putfield 33, 3) := by decide +kernel
theorem dX3_init_64 : decode cX3_init 64 = .ok (.aload_n 0, 1) := by decide +kernel
theorem dX3_init_65 : decode cX3_init 65 = .ok (.bipush 78, 2) := by decide +kernel
theorem dX3_init_67 : decode cX3_init 67 = .ok (.newarray .int, 2) := by decide +kernel
theorem dX3_init_69 : decode cX3_init 69 = .ok (.putfield 36, 3) := by decide +kernel
theorem dX3_init_72 : decode cX3_init 72 = .ok (.aload_n 0, 1) := by decide +kernel
theorem dX3_init_73 : decode cX3_init 73 = .ok (.iconst 0, 1) := by decide +kernel
theorem dX3_init_74 : decode cX3_init 74 = .ok (.putfield 39, 3) := by decide +kernel
theorem dX3_init_77 : decode cX3_init 77 = .ok (.aload_n 0, 1) := by decide +kernel
theorem dX3_init_78 : decode cX3_init 78 = .ok (.iconst 0, 1) := by decide +kernel
theorem dX3_init_79 : decode cX3_init 79 = .ok (.putfield 43, 3) := by decide +kernel
theorem dX3_init_82 : decode cX3_init 82 = .ok (.return_, 1) := by decide +kernel
theorem dX3_read_0 : decode cX3_read 0 = .ok (.aload_n 0, 1) := by decide +kernel
theorem dX3_read_1 : decode cX3_read 1 = .ok (.invokevirtual 46, 3) := by decide +kernel
theorem dX3_read_4 : decode cX3_read 4 = .ok (.iconst 0, 1) := by decide +kernel
theorem dX3_read_5 : decode cX3_read 5 = .ok (.istore_n 2, 1) := by decide +kernel
theorem dX3_read_6 : decode cX3_read 6 = .ok (.iload_n 2, 1) := by decide +kernel
theorem dX3_read_7 : decode cX3_read 7 = .ok (.bipush 6, 2) := by decide +kernel
theorem dX3_read_9 : decode cX3_read 9 = .ok (.if_icmp .ge 15, 3) := by decide +kernel
theorem dX3_read_12 : decode cX3_read 12 = .ok (.aload_n 0, 1) := by decide +kernel
theorem dX3_read_13 : decode cX3_read 13 = .ok (.aload_n 1, 1) := by decide +kernel
theorem dX3_read_14 : decode cX3_read 14 = .ok (.iload_n 2, 1) := by decide +kernel
theorem dX3_read_15 : decode cX3_read 15 = .ok (.invokevirtual 49, 3) := by decide +kernel
theorem dX3_read_18 : decode cX3_read 18 = .ok (.iinc 2 1, 3) := by decide +kernel
theorem dX3_read_21 : decode cX3_read 21 = .ok (.goto (-15), 3) := by decide +kernel
theorem dX3_read_24 : decode cX3_read 24 = .ok (.return_, 1) := by decide +kernel
theorem dX3_forget_0 : decode cX3_forget 0 = .ok (.iconst 0, 1) := by decide +kernel
theorem dX3_forget_1 : decode cX3_forget 1 = .ok (.istore_n 1, 1) := by decide +kernel
theorem dX3_forget_2 : decode cX3_forget 2 = .ok (.iload_n 1, 1) := by decide +kernel
theorem dX3_forget_3 : decode cX3_forget 3 = .ok (.bipush 13, 2) := by decide +kernel
theorem dX3_forget_5 : decode cX3_forget 5 = .ok (.if_icmp .ge 40, 3) := by decide +kernel
theorem dX3_forget_8 : decode cX3_forget 8 = .ok (.aload_n 0, 1) := by decide +kernel
theorem dX3_forget_9 : decode cX3_forget 9 = .ok (.getfield 26, 3) := by decide +kernel
theorem dX3_forget_12 : decode cX3_forget 12 = .ok (.iload_n 1, 1) := by decide +kernel
theorem dX3_forget_13 : decode cX3_forget 13 = .ok (.iconst 0, 1) := by decide +kernel
theorem dX3_forget_14 : decode cX3_forget 14 = .ok (.iastore, 1) := by decide +kernel
theorem dX3_forget_15 : decode cX3_forget 15 = .ok (.iconst 0, 1) := by decide +kernel
theorem dX3_forget_16 : decode cX3_forget 16 = .ok (.istore_n 2, 1) := by decide +kernel
theorem dX3_forget_17 : decode cX3_forget 17 = .ok (.iload_n 2, 1) := by decide +kernel
theorem dX3_forget_18 : decode cX3_forget 18 = .ok (.bipush 6, 2) := by decide +kernel
theorem dX3_forget_20 : decode cX3_forget 20 = .ok (.if_icmp .ge 19, 3) := by decide +kernel
theorem dX3_forget_23 : decode cX3_forget 23 = .ok (.aload_n 0, 1) := by decide +kernel
theorem dX3_forget_24 : decode cX3_forget 24 = .ok (.getfield 23, 3) := by decide +kernel
theorem dX3_forget_27 : decode cX3_forget 27 = .ok (.iload_n 1, 1) := by decide +kernel
theorem dX3_forget_28 : decode cX3_forget 28 = .ok (.aaload, 1) := by decide +kernel
theorem dX3_forget_29 : decode cX3_forget 29 = .ok (.iload_n 2, 1) := by decide +kernel
theorem dX3_forget_30 : decode cX3_forget 30 = .ok (.bipush (-99), 2) := by decide +kernel
theorem dX3_forget_32 : decode cX3_forget 32 = .ok (.iastore, 1) := by decide +kernel
theorem dX3_forget_33 : decode cX3_forget 33 = .ok (.iinc 2 1, 3) := by decide +kernel
theorem dX3_forget_36 : decode cX3_forget 36 = .ok (.goto (-19), 3) := by decide +kernel
theorem dX3_forget_39 : decode cX3_forget 39 = .ok (.iinc 1 1, 3) := by decide +kernel
theorem dX3_forget_42 : decode cX3_forget 42 = .ok (.goto (-40), 3) := by decide +kernel
theorem dX3_forget_45 : decode cX3_forget 45 = .ok (.aload_n 0, 1) := by decide +kernel
theorem dX3_forget_46 : decode cX3_forget 46 = .ok (.iconst 0, 1) := by decide +kernel
theorem dX3_forget_47 : decode cX3_forget 47 = .ok (.putfield 39, 3) := by decide +kernel
theorem dX3_forget_50 : decode cX3_forget 50 = .ok (.aload_n 0, 1) := by decide +kernel
theorem dX3_forget_51 : decode cX3_forget 51 = .ok (.iconst 0, 1) := by decide +kernel
theorem dX3_forget_52 : decode cX3_forget 52 = .ok (.putfield 43, 3) := by decide +kernel
theorem dX3_forget_55 : decode cX3_forget 55 = .ok (.return_, 1) := by decide +kernel
theorem dX3_readChapter_0 : decode cX3_readChapter 0 = .ok (.bipush (-99), 2) := by decide +kernel
theorem dX3_readChapter_2 : decode cX3_readChapter 2 = .ok (.istore_n 3, 1) := by decide +kernel
theorem dX3_readChapter_3 : decode cX3_readChapter 3 = .ok (.iconst 0, 1) := by decide +kernel
theorem dX3_readChapter_4 : decode cX3_readChapter 4 = .ok (.istore 4, 2) := by decide +kernel
theorem dX3_readChapter_6 : decode cX3_readChapter 6 = .ok (.iconst 0, 1) := by decide +kernel
theorem dX3_readChapter_7 : decode cX3_readChapter 7 = .ok (.istore 5, 2) := by decide +kernel
theorem dX3_readChapter_9 : decode cX3_readChapter 9 = .ok (.iconst 0, 1) := by decide +kernel
theorem dX3_readChapter_10 : decode cX3_readChapter 10 = .ok (.istore 6, 2) := by decide +kernel
theorem dX3_readChapter_12 : decode cX3_readChapter 12 = .ok (.iload 6, 2) := by decide +kernel
theorem dX3_readChapter_14 : decode cX3_readChapter 14 = .ok (.aload_n 1, 1) := by decide +kernel
theorem dX3_readChapter_15 : decode cX3_readChapter 15 = .ok (.getfield 53, 3) := by decide +kernel
theorem dX3_readChapter_18 : decode cX3_readChapter 18 = .ok (.iload_n 2, 1) := by decide +kernel
theorem dX3_readChapter_19 : decode cX3_readChapter 19 = .ok (.invokevirtual 59, 3) := by decide +kernel
theorem dX3_readChapter_22 : decode cX3_readChapter 22 = .ok (.if_icmp .ge 85, 3) := by decide +kernel
theorem dX3_readChapter_25 : decode cX3_readChapter 25 = .ok (.iload 6, 2) := by decide +kernel
theorem dX3_readChapter_27 : decode cX3_readChapter 27 = .ok (.iload 5, 2) := by decide +kernel
theorem dX3_readChapter_29 : decode cX3_readChapter 29 = .ok (.if_icmp .lt 37, 3) := by decide +kernel
theorem dX3_readChapter_32 : decode cX3_readChapter 32 = .ok (.aload_n 1, 1) := by decide +kernel
theorem dX3_readChapter_33 : decode cX3_readChapter 33 = .ok (.iload_n 2, 1) := by decide +kernel
theorem dX3_readChapter_34 : decode cX3_readChapter 34 = .ok (.iload 6, 2) := by decide +kernel
theorem dX3_readChapter_36 : decode cX3_readChapter 36 = .ok (.invokevirtual 63, 3) := by decide +kernel
theorem dX3_readChapter_39 : decode cX3_readChapter 39 = .ok (.istore_n 3, 1) := by decide +kernel
theorem dX3_readChapter_40 : decode cX3_readChapter 40 = .ok (.iload 6, 2) := by decide +kernel
theorem dX3_readChapter_42 : decode cX3_readChapter 42 = .ok (.istore 4, 2) := by decide +kernel
theorem dX3_readChapter_44 : decode cX3_readChapter 44 = .ok (.iload 6, 2) := by decide +kernel
theorem dX3_readChapter_46 : decode cX3_readChapter 46 = .ok (.aload_n 1, 1) := by decide +kernel
theorem dX3_readChapter_47 : decode cX3_readChapter 47 = .ok (.getfield 67, 3) := by decide +kernel
theorem dX3_readChapter_50 : decode cX3_readChapter 50 = .ok (.iload_n 3, 1) := by decide +kernel
theorem dX3_readChapter_51 : decode cX3_readChapter 51 = .ok (.invokevirtual 70, 3) := by decide +kernel
theorem dX3_readChapter_54 : decode cX3_readChapter 54 = .ok (.iadd, 1) := by decide +kernel
theorem dX3_readChapter_55 : decode cX3_readChapter 55 = .ok (.istore 5, 2) := by decide +kernel
theorem dX3_readChapter_57 : decode cX3_readChapter 57 = .ok (.aload_n 0, 1) := by decide +kernel
theorem dX3_readChapter_58 : decode cX3_readChapter 58 = .ok (.aload_n 1, 1) := by decide +kernel
theorem dX3_readChapter_59 : decode cX3_readChapter 59 = .ok (.iload_n 3, 1) := by decide +kernel
theorem dX3_readChapter_60 : decode cX3_readChapter 60 = .ok (.iload_n 2, 1) := by decide +kernel
theorem dX3_readChapter_61 : decode cX3_readChapter 61 = .ok (.iload 6, 2) := by decide +kernel
theorem dX3_readChapter_63 : decode cX3_readChapter 63 = .ok (.invokevirtual 71, 3) := by decide +kernel
theorem dX3_readChapter_66 : decode cX3_readChapter 66 = .ok (.aload_n 0, 1) := by decide +kernel
theorem dX3_readChapter_67 : decode cX3_readChapter 67 = .ok (.getfield 15, 3) := by decide +kernel
theorem dX3_readChapter_70 : decode cX3_readChapter 70 = .ok (.iload_n 2, 1) := by decide +kernel
theorem dX3_readChapter_71 : decode cX3_readChapter 71 = .ok (.aaload, 1) := by decide +kernel
theorem dX3_readChapter_72 : decode cX3_readChapter 72 = .ok (.iload 6, 2) := by decide +kernel
theorem dX3_readChapter_74 : decode cX3_readChapter 74 = .ok (.iload_n 3, 1) := by decide +kernel
theorem dX3_readChapter_75 : decode cX3_readChapter 75 = .ok (.iastore, 1) := by decide +kernel
theorem dX3_readChapter_76 : decode cX3_readChapter 76 = .ok (.aload_n 0, 1) := by decide +kernel
theorem dX3_readChapter_77 : decode cX3_readChapter 77 = .ok (.getfield 20, 3) := by decide +kernel
theorem dX3_readChapter_80 : decode cX3_readChapter 80 = .ok (.iload_n 2, 1) := by decide +kernel
theorem dX3_readChapter_81 : decode cX3_readChapter 81 = .ok (.aaload, 1) := by decide +kernel
theorem dX3_readChapter_82 : decode cX3_readChapter 82 = .ok (.iload 6, 2) := by decide +kernel
theorem dX3_readChapter_84 : decode cX3_readChapter 84 = .ok (.iload_n 3, 1) := by decide +kernel
theorem dX3_readChapter_85 : decode cX3_readChapter 85 = .ok (.bipush (-99), 2) := by decide +kernel
theorem dX3_readChapter_87 : decode cX3_readChapter 87 = .ok (.if_icmp .ne 8, 3) := by decide +kernel
theorem dX3_readChapter_90 : decode cX3_readChapter 90 = .ok (.bipush (-99), 2) := by decide +kernel
theorem dX3_readChapter_92 : decode cX3_readChapter 92 = .ok (.goto 8, 3) := by decide +kernel
theorem dX3_readChapter_95 : decode cX3_readChapter 95 = .ok (.iload 6, 2) := by decide +kernel
theorem dX3_readChapter_97 : decode cX3_readChapter 97 = .ok (.iload 4, 2) := by decide +kernel
theorem dX3_readChapter_99 : decode cX3_readChapter 99 = .ok (.isub, 1) := by decide +kernel
theorem dX3_readChapter_100 : decode cX3_readChapter 100 = .ok (.iastore, 1) := by decide +kernel
theorem dX3_readChapter_101 : decode cX3_readChapter 101 = .ok (.iinc 6 1, 3) := by decide +kernel
theorem dX3_readChapter_104 : decode cX3_readChapter 104 = .ok (.goto (-92), 3) := by decide +kernel
theorem dX3_readChapter_107 : decode cX3_readChapter 107 = .ok (.return_, 1) := by decide +kernel
theorem dX3_note_0 : decode cX3_note 0 = .ok (.aload_n 1, 1) := by decide +kernel
theorem dX3_note_1 : decode cX3_note 1 = .ok (.getfield 67, 3) := by decide +kernel
theorem dX3_note_4 : decode cX3_note 4 = .ok (.iload_n 2, 1) := by decide +kernel
theorem dX3_note_5 : decode cX3_note 5 = .ok (.invokevirtual 75, 3) := by decide +kernel
theorem dX3_note_8 : decode cX3_note 8 = .ok (.ifCond .ne 4, 3) := by decide +kernel
theorem dX3_note_11 : decode cX3_note 11 = .ok (.return_, 1) := by decide +kernel
theorem dX3_note_12 : decode cX3_note 12 = .ok (.aload_n 0, 1) := by decide +kernel
theorem dX3_note_13 : decode cX3_note 13 = .ok (.getfield 26, 3) := by decide +kernel
theorem dX3_note_16 : decode cX3_note 16 = .ok (.iload_n 2, 1) := by decide +kernel
theorem dX3_note_17 : decode cX3_note 17 = .ok (.dup2, 1) := by decide +kernel
theorem dX3_note_18 : decode cX3_note 18 = .ok (.iaload, 1) := by decide +kernel
theorem dX3_note_19 : decode cX3_note 19 = .ok (.iconst 1, 1) := by decide +kernel
theorem dX3_note_20 : decode cX3_note 20 = .ok (.iadd, 1) := by decide +kernel
theorem dX3_note_21 : decode cX3_note 21 = .ok (.iastore, 1) := by decide +kernel
theorem dX3_note_22 : decode cX3_note 22 = .ok (.aload_n 0, 1) := by decide +kernel
theorem dX3_note_23 : decode cX3_note 23 = .ok (.dup, 1) := by decide +kernel
theorem dX3_note_24 : decode cX3_note 24 = .ok (.getfield 43, 3) := by decide +kernel
theorem dX3_note_27 : decode cX3_note 27 = .ok (.iconst 1, 1) := by decide +kernel
theorem dX3_note_28 : decode cX3_note 28 = .ok (.iadd, 1) := by decide +kernel
theorem dX3_note_29 : decode cX3_note 29 = .ok (.putfield 43, 3) := by decide +kernel
theorem dX3_note_32 : decode cX3_note 32 = .ok (.aload_n 0, 1) := by decide +kernel
theorem dX3_note_33 : decode cX3_note 33 = .ok (.getfield 23, 3) := by decide +kernel
theorem dX3_note_36 : decode cX3_note 36 = .ok (.iload_n 2, 1) := by decide +kernel
theorem dX3_note_37 : decode cX3_note 37 = .ok (.aaload, 1) := by decide +kernel
theorem dX3_note_38 : decode cX3_note 38 = .ok (.iload_n 3, 1) := by decide +kernel
theorem dX3_note_39 : decode cX3_note 39 = .ok (.iaload, 1) := by decide +kernel
theorem dX3_note_40 : decode cX3_note 40 = .ok (.bipush (-99), 2) := by decide +kernel
theorem dX3_note_42 : decode cX3_note 42 = .ok (.if_icmp .eq 4, 3) := by decide +kernel
theorem dX3_note_45 : decode cX3_note 45 = .ok (.return_, 1) := by decide +kernel
theorem dX3_note_46 : decode cX3_note 46 = .ok (.aload_n 0, 1) := by decide +kernel
theorem dX3_note_47 : decode cX3_note 47 = .ok (.getfield 23, 3) := by decide +kernel
theorem dX3_note_50 : decode cX3_note 50 = .ok (.iload_n 2, 1) := by decide +kernel
theorem dX3_note_51 : decode cX3_note 51 = .ok (.aaload, 1) := by decide +kernel
theorem dX3_note_52 : decode cX3_note 52 = .ok (.iload_n 3, 1) := by decide +kernel
theorem dX3_note_53 : decode cX3_note 53 = .ok (.iload 4, 2) := by decide +kernel
theorem dX3_note_55 : decode cX3_note 55 = .ok (.iastore, 1) := by decide +kernel
theorem dX3_note_56 : decode cX3_note 56 = .ok (.aload_n 1, 1) := by decide +kernel
theorem dX3_note_57 : decode cX3_note 57 = .ok (.getfield 67, 3) := by decide +kernel
theorem dX3_note_60 : decode cX3_note 60 = .ok (.iload_n 2, 1) := by decide +kernel
theorem dX3_note_61 : decode cX3_note 61 = .ok (.invokevirtual 79, 3) := by decide +kernel
theorem dX3_note_64 : decode cX3_note 64 = .ok (.ifCond .ne 53, 3) := by decide +kernel
theorem dX3_note_67 : decode cX3_note 67 = .ok (.aload_n 0, 1) := by decide +kernel
theorem dX3_note_68 : decode cX3_note 68 = .ok (.getfield 39, 3) := by decide +kernel
theorem dX3_note_71 : decode cX3_note 71 = .ok (.bipush 78, 2) := by decide +kernel
theorem dX3_note_73 : decode cX3_note 73 = .ok (.if_icmp .ge 44, 3) := by decide +kernel
theorem dX3_note_76 : decode cX3_note 76 = .ok (.aload_n 0, 1) := by decide +kernel
theorem dX3_note_77 : decode cX3_note 77 = .ok (.getfield 30, 3) := by decide +kernel
theorem dX3_note_80 : decode cX3_note 80 = .ok (.aload_n 0, 1) := by decide +kernel
theorem dX3_note_81 : decode cX3_note 81 = .ok (.getfield 39, 3) := by decide +kernel
theorem dX3_note_84 : decode cX3_note 84 = .ok (.iload_n 3, 1) := by decide +kernel
theorem dX3_note_85 : decode cX3_note 85 = .ok (.iastore, 1) := by decide +kernel
theorem dX3_note_86 : decode cX3_note 86 = .ok (.aload_n 0, 1) := by decide +kernel
theorem dX3_note_87 : decode cX3_note 87 = .ok (.getfield 33, 3) := by decide +kernel
theorem dX3_note_90 : decode cX3_note 90 = .ok (.aload_n 0, 1) := by decide +kernel
theorem dX3_note_91 : decode cX3_note 91 = .ok (.getfield 39, 3) := by decide +kernel
theorem dX3_note_94 : decode cX3_note 94 = .ok (.iload 4, 2) := by decide +kernel
theorem dX3_note_96 : decode cX3_note 96 = .ok (.iastore, 1) := by decide +kernel
theorem dX3_note_97 : decode cX3_note 97 = .ok (.aload_n 0, 1) := by decide +kernel
theorem dX3_note_98 : decode cX3_note 98 = .ok (.getfield 36, 3) := by decide +kernel
theorem dX3_note_101 : decode cX3_note 101 = .ok (.aload_n 0, 1) := by decide +kernel
theorem dX3_note_102 : decode cX3_note 102 = .ok (.getfield 39, 3) := by decide +kernel
theorem dX3_note_105 : decode cX3_note 105 = .ok (.iload_n 2, 1) := by decide +kernel
theorem dX3_note_106 : decode cX3_note 106 = .ok (.iastore, 1) := by decide +kernel
theorem dX3_note_107 : decode cX3_note 107 = .ok (.aload_n 0, 1) := by decide +kernel
theorem dX3_note_108 : decode cX3_note 108 = .ok (.dup, 1) := by decide +kernel
theorem dX3_note_109 : decode cX3_note 109 = .ok (.getfield 39, 3) := by decide +kernel
theorem dX3_note_112 : decode cX3_note 112 = .ok (.iconst 1, 1) := by decide +kernel
theorem dX3_note_113 : decode cX3_note 113 = .ok (.iadd, 1) := by decide +kernel
theorem dX3_note_114 : decode cX3_note 114 = .ok (.putfield 39, 3) := by decide +kernel
theorem dX3_note_117 : decode cX3_note 117 = .ok (.return_, 1) := by decide +kernel
theorem dX3_markCount_0 : decode cX3_markCount 0 = .ok (.aload_n 0, 1) := by decide +kernel
theorem dX3_markCount_1 : decode cX3_markCount 1 = .ok (.getfield 39, 3) := by decide +kernel
theorem dX3_markCount_4 : decode cX3_markCount 4 = .ok (.ireturn, 1) := by decide +kernel
theorem dX3_readingCount_0 : decode cX3_readingCount 0 = .ok (.aload_n 0, 1) := by decide +kernel
theorem dX3_readingCount_1 : decode cX3_readingCount 1 = .ok (.getfield 43, 3) := by decide +kernel
theorem dX3_readingCount_4 : decode cX3_readingCount 4 = .ok (.ireturn, 1) := by decide +kernel
theorem dX3_termOver_0 : decode cX3_termOver 0 = .ok (.iload_n 1, 1) := by decide +kernel
theorem dX3_termOver_1 : decode cX3_termOver 1 = .ok (.iload_n 2, 1) := by decide +kernel
theorem dX3_termOver_2 : decode cX3_termOver 2 = .ok (.invokestatic 82, 3) := by decide +kernel
theorem dX3_termOver_5 : decode cX3_termOver 5 = .ok (.ifCond .eq 14, 3) := by decide +kernel
theorem dX3_termOver_8 : decode cX3_termOver 8 = .ok (.aload_n 0, 1) := by decide +kernel
theorem dX3_termOver_9 : decode cX3_termOver 9 = .ok (.getfield 15, 3) := by decide +kernel
theorem dX3_termOver_12 : decode cX3_termOver 12 = .ok (.iload_n 1, 1) := by decide +kernel
theorem dX3_termOver_13 : decode cX3_termOver 13 = .ok (.aaload, 1) := by decide +kernel
theorem dX3_termOver_14 : decode cX3_termOver 14 = .ok (.iload_n 2, 1) := by decide +kernel
theorem dX3_termOver_15 : decode cX3_termOver 15 = .ok (.iaload, 1) := by decide +kernel
theorem dX3_termOver_16 : decode cX3_termOver 16 = .ok (.goto 5, 3) := by decide +kernel
theorem dX3_termOver_19 : decode cX3_termOver 19 = .ok (.bipush (-99), 2) := by decide +kernel
theorem dX3_termOver_21 : decode cX3_termOver 21 = .ok (.ireturn, 1) := by decide +kernel
theorem dX3_stepOver_0 : decode cX3_stepOver 0 = .ok (.iload_n 1, 1) := by decide +kernel
theorem dX3_stepOver_1 : decode cX3_stepOver 1 = .ok (.iload_n 2, 1) := by decide +kernel
theorem dX3_stepOver_2 : decode cX3_stepOver 2 = .ok (.invokestatic 82, 3) := by decide +kernel
theorem dX3_stepOver_5 : decode cX3_stepOver 5 = .ok (.ifCond .eq 14, 3) := by decide +kernel
theorem dX3_stepOver_8 : decode cX3_stepOver 8 = .ok (.aload_n 0, 1) := by decide +kernel
theorem dX3_stepOver_9 : decode cX3_stepOver 9 = .ok (.getfield 20, 3) := by decide +kernel
theorem dX3_stepOver_12 : decode cX3_stepOver 12 = .ok (.iload_n 1, 1) := by decide +kernel
theorem dX3_stepOver_13 : decode cX3_stepOver 13 = .ok (.aaload, 1) := by decide +kernel
theorem dX3_stepOver_14 : decode cX3_stepOver 14 = .ok (.iload_n 2, 1) := by decide +kernel
theorem dX3_stepOver_15 : decode cX3_stepOver 15 = .ok (.iaload, 1) := by decide +kernel
theorem dX3_stepOver_16 : decode cX3_stepOver 16 = .ok (.goto 5, 3) := by decide +kernel
theorem dX3_stepOver_19 : decode cX3_stepOver 19 = .ok (.bipush (-99), 2) := by decide +kernel
theorem dX3_stepOver_21 : decode cX3_stepOver 21 = .ok (.ireturn, 1) := by decide +kernel
theorem dX3_isInside_0 : decode cX3_isInside 0 = .ok (.iload_n 0, 1) := by decide +kernel
theorem dX3_isInside_1 : decode cX3_isInside 1 = .ok (.ifCond .lt 23, 3) := by decide +kernel
theorem dX3_isInside_4 : decode cX3_isInside 4 = .ok (.iload_n 0, 1) := by decide +kernel
theorem dX3_isInside_5 : decode cX3_isInside 5 = .ok (.bipush 6, 2) := by decide +kernel
theorem dX3_isInside_7 : decode cX3_isInside 7 = .ok (.if_icmp .ge 17, 3) := by decide +kernel
theorem dX3_isInside_10 : decode cX3_isInside 10 = .ok (.iload_n 1, 1) := by decide +kernel
theorem dX3_isInside_11 : decode cX3_isInside 11 = .ok (.ifCond .lt 13, 3) := by decide +kernel
theorem dX3_isInside_14 : decode cX3_isInside 14 = .ok (.iload_n 1, 1) := by decide +kernel
theorem dX3_isInside_15 : decode cX3_isInside 15 = .ok (.bipush 40, 2) := by decide +kernel
theorem dX3_isInside_17 : decode cX3_isInside 17 = .ok (.if_icmp .ge 7, 3) := by decide +kernel
theorem dX3_isInside_20 : decode cX3_isInside 20 = .ok (.iconst 1, 1) := by decide +kernel
theorem dX3_isInside_21 : decode cX3_isInside 21 = .ok (.goto 4, 3) := by decide +kernel
theorem dX3_isInside_24 : decode cX3_isInside 24 = .ok (.iconst 0, 1) := by decide +kernel
theorem dX3_isInside_25 : decode cX3_isInside 25 = .ok (.ireturn, 1) := by decide +kernel
theorem dX3_hasMark_0 : decode cX3_hasMark 0 = .ok (.iconst 0, 1) := by decide +kernel
theorem dX3_hasMark_1 : decode cX3_hasMark 1 = .ok (.istore_n 3, 1) := by decide +kernel
theorem dX3_hasMark_2 : decode cX3_hasMark 2 = .ok (.iload_n 3, 1) := by decide +kernel
theorem dX3_hasMark_3 : decode cX3_hasMark 3 = .ok (.aload_n 0, 1) := by decide +kernel
theorem dX3_hasMark_4 : decode cX3_hasMark 4 = .ok (.getfield 39, 3) := by decide +kernel
theorem dX3_hasMark_7 : decode cX3_hasMark 7 = .ok (.if_icmp .ge 31, 3) := by decide +kernel
theorem dX3_hasMark_10 : decode cX3_hasMark 10 = .ok (.aload_n 0, 1) := by decide +kernel
theorem dX3_hasMark_11 : decode cX3_hasMark 11 = .ok (.getfield 30, 3) := by decide +kernel
theorem dX3_hasMark_14 : decode cX3_hasMark 14 = .ok (.iload_n 3, 1) := by decide +kernel
theorem dX3_hasMark_15 : decode cX3_hasMark 15 = .ok (.iaload, 1) := by decide +kernel
theorem dX3_hasMark_16 : decode cX3_hasMark 16 = .ok (.iload_n 1, 1) := by decide +kernel
theorem dX3_hasMark_17 : decode cX3_hasMark 17 = .ok (.if_icmp .ne 15, 3) := by decide +kernel
theorem dX3_hasMark_20 : decode cX3_hasMark 20 = .ok (.aload_n 0, 1) := by decide +kernel
theorem dX3_hasMark_21 : decode cX3_hasMark 21 = .ok (.getfield 33, 3) := by decide +kernel
theorem dX3_hasMark_24 : decode cX3_hasMark 24 = .ok (.iload_n 3, 1) := by decide +kernel
theorem dX3_hasMark_25 : decode cX3_hasMark 25 = .ok (.iaload, 1) := by decide +kernel
theorem dX3_hasMark_26 : decode cX3_hasMark 26 = .ok (.iload_n 2, 1) := by decide +kernel
theorem dX3_hasMark_27 : decode cX3_hasMark 27 = .ok (.if_icmp .ne 5, 3) := by decide +kernel
theorem dX3_hasMark_30 : decode cX3_hasMark 30 = .ok (.iconst 1, 1) := by decide +kernel
theorem dX3_hasMark_31 : decode cX3_hasMark 31 = .ok (.ireturn, 1) := by decide +kernel
theorem dX3_hasMark_32 : decode cX3_hasMark 32 = .ok (.iinc 3 1, 3) := by decide +kernel
theorem dX3_hasMark_35 : decode cX3_hasMark 35 = .ok (.goto (-33), 3) := by decide +kernel
theorem dX3_hasMark_38 : decode cX3_hasMark 38 = .ok (.iconst 0, 1) := by decide +kernel
theorem dX3_hasMark_39 : decode cX3_hasMark 39 = .ok (.ireturn, 1) := by decide +kernel
theorem dX3_timesRead_0 : decode cX3_timesRead 0 = .ok (.iload_n 1, 1) := by decide +kernel
theorem dX3_timesRead_1 : decode cX3_timesRead 1 = .ok (.ifCond .lt 18, 3) := by decide +kernel
theorem dX3_timesRead_4 : decode cX3_timesRead 4 = .ok (.iload_n 1, 1) := by decide +kernel
theorem dX3_timesRead_5 : decode cX3_timesRead 5 = .ok (.bipush 13, 2) := by decide +kernel
theorem dX3_timesRead_7 : decode cX3_timesRead 7 = .ok (.if_icmp .ge 12, 3) := by decide +kernel
theorem dX3_timesRead_10 : decode cX3_timesRead 10 = .ok (.aload_n 0, 1) := by decide +kernel
theorem dX3_timesRead_11 : decode cX3_timesRead 11 = .ok (.getfield 26, 3) := by decide +kernel
theorem dX3_timesRead_14 : decode cX3_timesRead 14 = .ok (.iload_n 1, 1) := by decide +kernel
theorem dX3_timesRead_15 : decode cX3_timesRead 15 = .ok (.iaload, 1) := by decide +kernel
theorem dX3_timesRead_16 : decode cX3_timesRead 16 = .ok (.goto 4, 3) := by decide +kernel
theorem dX3_timesRead_19 : decode cX3_timesRead 19 = .ok (.iconst 0, 1) := by decide +kernel
theorem dX3_timesRead_20 : decode cX3_timesRead 20 = .ok (.ireturn, 1) := by decide +kernel
theorem dX3_firstPlace_0 : decode cX3_firstPlace 0 = .ok (.iload_n 1, 1) := by decide +kernel
theorem dX3_firstPlace_1 : decode cX3_firstPlace 1 = .ok (.ifCond .lt 19, 3) := by decide +kernel
theorem dX3_firstPlace_4 : decode cX3_firstPlace 4 = .ok (.iload_n 1, 1) := by decide +kernel
theorem dX3_firstPlace_5 : decode cX3_firstPlace 5 = .ok (.bipush 13, 2) := by decide +kernel
theorem dX3_firstPlace_7 : decode cX3_firstPlace 7 = .ok (.if_icmp .ge 13, 3) := by decide +kernel
theorem dX3_firstPlace_10 : decode cX3_firstPlace 10 = .ok (.iload_n 2, 1) := by decide +kernel
theorem dX3_firstPlace_11 : decode cX3_firstPlace 11 = .ok (.ifCond .lt 9, 3) := by decide +kernel
theorem dX3_firstPlace_14 : decode cX3_firstPlace 14 = .ok (.iload_n 2, 1) := by decide +kernel
theorem dX3_firstPlace_15 : decode cX3_firstPlace 15 = .ok (.bipush 6, 2) := by decide +kernel
theorem dX3_firstPlace_17 : decode cX3_firstPlace 17 = .ok (.if_icmp .lt 6, 3) := by decide +kernel
theorem dX3_firstPlace_20 : decode cX3_firstPlace 20 = .ok (.bipush (-99), 2) := by decide +kernel
theorem dX3_firstPlace_22 : decode cX3_firstPlace 22 = .ok (.ireturn, 1) := by decide +kernel
theorem dX3_firstPlace_23 : decode cX3_firstPlace 23 = .ok (.aload_n 0, 1) := by decide +kernel
theorem dX3_firstPlace_24 : decode cX3_firstPlace 24 = .ok (.getfield 23, 3) := by decide +kernel
theorem dX3_firstPlace_27 : decode cX3_firstPlace 27 = .ok (.iload_n 1, 1) := by decide +kernel
theorem dX3_firstPlace_28 : decode cX3_firstPlace 28 = .ok (.aaload, 1) := by decide +kernel
theorem dX3_firstPlace_29 : decode cX3_firstPlace 29 = .ok (.iload_n 2, 1) := by decide +kernel
theorem dX3_firstPlace_30 : decode cX3_firstPlace 30 = .ok (.iaload, 1) := by decide +kernel
theorem dX3_firstPlace_31 : decode cX3_firstPlace 31 = .ok (.ireturn, 1) := by decide +kernel
theorem dX3_marksOf_0 : decode cX3_marksOf 0 = .ok (.iconst 0, 1) := by decide +kernel
theorem dX3_marksOf_1 : decode cX3_marksOf 1 = .ok (.istore_n 2, 1) := by decide +kernel
theorem dX3_marksOf_2 : decode cX3_marksOf 2 = .ok (.iconst 0, 1) := by decide +kernel
theorem dX3_marksOf_3 : decode cX3_marksOf 3 = .ok (.istore_n 3, 1) := by decide +kernel
theorem dX3_marksOf_4 : decode cX3_marksOf 4 = .ok (.iload_n 3, 1) := by decide +kernel
theorem dX3_marksOf_5 : decode cX3_marksOf 5 = .ok (.aload_n 0, 1) := by decide +kernel
theorem dX3_marksOf_6 : decode cX3_marksOf 6 = .ok (.getfield 39, 3) := by decide +kernel
theorem dX3_marksOf_9 : decode cX3_marksOf 9 = .ok (.if_icmp .ge 22, 3) := by decide +kernel
theorem dX3_marksOf_12 : decode cX3_marksOf 12 = .ok (.aload_n 0, 1) := by decide +kernel
theorem dX3_marksOf_13 : decode cX3_marksOf 13 = .ok (.getfield 36, 3) := by decide +kernel
theorem dX3_marksOf_16 : decode cX3_marksOf 16 = .ok (.iload_n 3, 1) := by decide +kernel
theorem dX3_marksOf_17 : decode cX3_marksOf 17 = .ok (.iaload, 1) := by decide +kernel
theorem dX3_marksOf_18 : decode cX3_marksOf 18 = .ok (.iload_n 1, 1) := by decide +kernel
theorem dX3_marksOf_19 : decode cX3_marksOf 19 = .ok (.if_icmp .ne 6, 3) := by decide +kernel
theorem dX3_marksOf_22 : decode cX3_marksOf 22 = .ok (.iinc 2 1, 3) := by decide +kernel
theorem dX3_marksOf_25 : decode cX3_marksOf 25 = .ok (.iinc 3 1, 3) := by decide +kernel
theorem dX3_marksOf_28 : decode cX3_marksOf 28 = .ok (.goto (-24), 3) := by decide +kernel
theorem dX3_marksOf_31 : decode cX3_marksOf 31 = .ok (.iload_n 2, 1) := by decide +kernel
theorem dX3_marksOf_32 : decode cX3_marksOf 32 = .ok (.ireturn, 1) := by decide +kernel
theorem dX3_markPart_0 : decode cX3_markPart 0 = .ok (.iload_n 1, 1) := by decide +kernel
theorem dX3_markPart_1 : decode cX3_markPart 1 = .ok (.ifCond .lt 11, 3) := by decide +kernel
theorem dX3_markPart_4 : decode cX3_markPart 4 = .ok (.iload_n 1, 1) := by decide +kernel
theorem dX3_markPart_5 : decode cX3_markPart 5 = .ok (.aload_n 0, 1) := by decide +kernel
theorem dX3_markPart_6 : decode cX3_markPart 6 = .ok (.getfield 39, 3) := by decide +kernel
theorem dX3_markPart_9 : decode cX3_markPart 9 = .ok (.if_icmp .lt 6, 3) := by decide +kernel
theorem dX3_markPart_12 : decode cX3_markPart 12 = .ok (.bipush (-99), 2) := by decide +kernel
theorem dX3_markPart_14 : decode cX3_markPart 14 = .ok (.ireturn, 1) := by decide +kernel
theorem dX3_markPart_15 : decode cX3_markPart 15 = .ok (.iload_n 2, 1) := by decide +kernel
theorem dX3_markPart_16 : decode cX3_markPart 16 = .ok (.tableswitch 49 0 2 #[28, 35, 42], 28) := by decide +kernel
theorem dX3_markPart_44 : decode cX3_markPart 44 = .ok (.aload_n 0, 1) := by decide +kernel
theorem dX3_markPart_45 : decode cX3_markPart 45 = .ok (.getfield 30, 3) := by decide +kernel
theorem dX3_markPart_48 : decode cX3_markPart 48 = .ok (.iload_n 1, 1) := by decide +kernel
theorem dX3_markPart_49 : decode cX3_markPart 49 = .ok (.iaload, 1) := by decide +kernel
theorem dX3_markPart_50 : decode cX3_markPart 50 = .ok (.ireturn, 1) := by decide +kernel
theorem dX3_markPart_51 : decode cX3_markPart 51 = .ok (.aload_n 0, 1) := by decide +kernel
theorem dX3_markPart_52 : decode cX3_markPart 52 = .ok (.getfield 33, 3) := by decide +kernel
theorem dX3_markPart_55 : decode cX3_markPart 55 = .ok (.iload_n 1, 1) := by decide +kernel
theorem dX3_markPart_56 : decode cX3_markPart 56 = .ok (.iaload, 1) := by decide +kernel
theorem dX3_markPart_57 : decode cX3_markPart 57 = .ok (.ireturn, 1) := by decide +kernel
theorem dX3_markPart_58 : decode cX3_markPart 58 = .ok (.aload_n 0, 1) := by decide +kernel
theorem dX3_markPart_59 : decode cX3_markPart 59 = .ok (.getfield 36, 3) := by decide +kernel
theorem dX3_markPart_62 : decode cX3_markPart 62 = .ok (.iload_n 1, 1) := by decide +kernel
theorem dX3_markPart_63 : decode cX3_markPart 63 = .ok (.iaload, 1) := by decide +kernel
theorem dX3_markPart_64 : decode cX3_markPart 64 = .ok (.ireturn, 1) := by decide +kernel
theorem dX3_markPart_65 : decode cX3_markPart 65 = .ok (.bipush (-99), 2) := by decide +kernel
theorem dX3_markPart_67 : decode cX3_markPart 67 = .ok (.ireturn, 1) := by decide +kernel
theorem dX4_init_0 : decode cX4_init 0 = .ok (.aload_n 0, 1) := by decide +kernel
theorem dX4_init_1 : decode cX4_init 1 = .ok (.invokespecial 3, 3) := by decide +kernel
theorem dX4_init_4 : decode cX4_init 4 = .ok (.aload_n 0, 1) := by decide +kernel
theorem dX4_init_5 : decode cX4_init 5 = .ok (.new 9, 3) := by decide +kernel
theorem dX4_init_8 : decode cX4_init 8 = .ok (.dup, 1) := by decide +kernel
theorem dX4_init_9 : decode cX4_init 9 = .ok (.invokespecial 11, 3) := by decide +kernel
theorem dX4_init_12 : decode cX4_init 12 = .ok (.putfield 12, 3) := by decide +kernel
theorem dX4_init_15 : decode cX4_init 15 = .ok (.aload_n 0, 1) := by decide +kernel
theorem dX4_init_16 : decode cX4_init 16 = .ok (.new 18, 3) := by decide +kernel
theorem dX4_init_19 : decode cX4_init 19 = .ok (.dup, 1) := by decide +kernel
theorem dX4_init_20 : decode cX4_init 20 = .ok (.invokespecial 20, 3) := by decide +kernel
theorem dX4_init_23 : decode cX4_init 23 = .ok (.putfield 21, 3) := by decide +kernel
theorem dX4_init_26 : decode cX4_init 26 = .ok (.aload_n 0, 1) := by decide +kernel
theorem dX4_init_27 : decode cX4_init 27 = .ok (.new 25, 3) := by decide +kernel
theorem dX4_init_30 : decode cX4_init 30 = .ok (.dup, 1) := by decide +kernel
theorem dX4_init_31 : decode cX4_init 31 = .ok (.invokespecial 27, 3) := by decide +kernel
theorem dX4_init_34 : decode cX4_init 34 = .ok (.putfield 28, 3) := by decide +kernel
theorem dX4_init_37 : decode cX4_init 37 = .ok (.aload_n 0, 1) := by decide +kernel
theorem dX4_init_38 : decode cX4_init 38 = .ok (.iconst 2, 1) := by decide +kernel
theorem dX4_init_39 : decode cX4_init 39 = .ok (.anewarray 18, 3) := by decide +kernel
theorem dX4_init_42 : decode cX4_init 42 = .ok (.putfield 32, 3) := by decide +kernel
theorem dX4_init_45 : decode cX4_init 45 = .ok (.aload_n 0, 1) := by decide +kernel
theorem dX4_init_46 : decode cX4_init 46 = .ok (.iconst 2, 1) := by decide +kernel
theorem dX4_init_47 : decode cX4_init 47 = .ok (.newarray .boolean, 2) := by decide +kernel
theorem dX4_init_49 : decode cX4_init 49 = .ok (.putfield 36, 3) := by decide +kernel
theorem dX4_init_52 : decode cX4_init 52 = .ok (.iconst 0, 1) := by decide +kernel
theorem dX4_init_53 : decode cX4_init 53 = .ok (.istore_n 1, 1) := by decide +kernel
theorem dX4_init_54 : decode cX4_init 54 = .ok (.iload_n 1, 1) := by decide +kernel
theorem dX4_init_55 : decode cX4_init 55 = .ok (.iconst 2, 1) := by decide +kernel
theorem dX4_init_56 : decode cX4_init 56 = .ok (.if_icmp .ge 22, 3) := by decide +kernel
theorem dX4_init_59 : decode cX4_init 59 = .ok (.aload_n 0, 1) := by decide +kernel
theorem dX4_init_60 : decode cX4_init 60 = .ok (.getfield 32, 3) := by decide +kernel
theorem dX4_init_63 : decode cX4_init 63 = .ok (.iload_n 1, 1) := by decide +kernel
theorem dX4_init_64 : decode cX4_init 64 = .ok (.new 18, 3) := by decide +kernel
theorem dX4_init_67 : decode cX4_init 67 = .ok (.dup, 1) := by decide +kernel
theorem dX4_init_68 : decode cX4_init 68 = .ok (.invokespecial 20, 3) := by decide +kernel
theorem dX4_init_71 : decode cX4_init 71 = .ok (.aastore, 1) := by decide +kernel
theorem dX4_init_72 : decode cX4_init 72 = .ok (.iinc 1 1, 3) := by decide +kernel
theorem dX4_init_75 : decode cX4_init 75 = .ok (.goto (-21), 3) := by decide +kernel
theorem dX4_init_78 : decode cX4_init 78 = .ok (.return_, 1) := by decide +kernel
theorem dX4_hasSlot_0 : decode cX4_hasSlot 0 = .ok (.iload_n 1, 1) := by decide +kernel
theorem dX4_hasSlot_1 : decode cX4_hasSlot 1 = .ok (.ifCond .lt 12, 3) := by decide +kernel
theorem dX4_hasSlot_4 : decode cX4_hasSlot 4 = .ok (.iload_n 1, 1) := by decide +kernel
theorem dX4_hasSlot_5 : decode cX4_hasSlot 5 = .ok (.iconst 2, 1) := by decide +kernel
theorem dX4_hasSlot_6 : decode cX4_hasSlot 6 = .ok (.if_icmp .ge 7, 3) := by decide +kernel
theorem dX4_hasSlot_9 : decode cX4_hasSlot 9 = .ok (.iconst 1, 1) := by decide +kernel
theorem dX4_hasSlot_10 : decode cX4_hasSlot 10 = .ok (.goto 4, 3) := by decide +kernel
theorem dX4_hasSlot_13 : decode cX4_hasSlot 13 = .ok (.iconst 0, 1) := by decide +kernel
theorem dX4_hasSlot_14 : decode cX4_hasSlot 14 = .ok (.ireturn, 1) := by decide +kernel
theorem dX4_isTaken_0 : decode cX4_isTaken 0 = .ok (.aload_n 0, 1) := by decide +kernel
theorem dX4_isTaken_1 : decode cX4_isTaken 1 = .ok (.iload_n 1, 1) := by decide +kernel
theorem dX4_isTaken_2 : decode cX4_isTaken 2 = .ok (.invokevirtual 40, 3) := by decide +kernel
theorem dX4_isTaken_5 : decode cX4_isTaken 5 = .ok (.ifCond .eq 16, 3) := by decide +kernel
theorem dX4_isTaken_8 : decode cX4_isTaken 8 = .ok (.aload_n 0, 1) := by decide +kernel
theorem dX4_isTaken_9 : decode cX4_isTaken 9 = .ok (.getfield 36, 3) := by decide +kernel
theorem dX4_isTaken_12 : decode cX4_isTaken 12 = .ok (.iload_n 1, 1) := by decide +kernel
theorem dX4_isTaken_13 : decode cX4_isTaken 13 = .ok (.baload, 1) := by decide +kernel
theorem dX4_isTaken_14 : decode cX4_isTaken 14 = .ok (.ifCond .eq 7, 3) := by decide +kernel
theorem dX4_isTaken_17 : decode cX4_isTaken 17 = .ok (.iconst 1, 1) := by decide +kernel
theorem dX4_isTaken_18 : decode cX4_isTaken 18 = .ok (.goto 4, 3) := by decide +kernel
theorem dX4_isTaken_21 : decode cX4_isTaken 21 = .ok (.iconst 0, 1) := by decide +kernel
theorem dX4_isTaken_22 : decode cX4_isTaken 22 = .ok (.ireturn, 1) := by decide +kernel
theorem dX4_takenCount_0 : decode cX4_takenCount 0 = .ok (.iconst 0, 1) := by decide +kernel
theorem dX4_takenCount_1 : decode cX4_takenCount 1 = .ok (.istore_n 1, 1) := by decide +kernel
theorem dX4_takenCount_2 : decode cX4_takenCount 2 = .ok (.iconst 0, 1) := by decide +kernel
theorem dX4_takenCount_3 : decode cX4_takenCount 3 = .ok (.istore_n 2, 1) := by decide +kernel
theorem dX4_takenCount_4 : decode cX4_takenCount 4 = .ok (.iload_n 2, 1) := by decide +kernel
theorem dX4_takenCount_5 : decode cX4_takenCount 5 = .ok (.iconst 2, 1) := by decide +kernel
theorem dX4_takenCount_6 : decode cX4_takenCount 6 = .ok (.if_icmp .ge 21, 3) := by decide +kernel
theorem dX4_takenCount_9 : decode cX4_takenCount 9 = .ok (.aload_n 0, 1) := by decide +kernel
theorem dX4_takenCount_10 : decode cX4_takenCount 10 = .ok (.getfield 36, 3) := by decide +kernel
theorem dX4_takenCount_13 : decode cX4_takenCount 13 = .ok (.iload_n 2, 1) := by decide +kernel
theorem dX4_takenCount_14 : decode cX4_takenCount 14 = .ok (.baload, 1) := by decide +kernel
theorem dX4_takenCount_15 : decode cX4_takenCount 15 = .ok (.ifCond .eq 6, 3) := by decide +kernel
theorem dX4_takenCount_18 : decode cX4_takenCount 18 = .ok (.iinc 1 1, 3) := by decide +kernel
theorem dX4_takenCount_21 : decode cX4_takenCount 21 = .ok (.iinc 2 1, 3) := by decide +kernel
theorem dX4_takenCount_24 : decode cX4_takenCount 24 = .ok (.goto (-20), 3) := by decide +kernel
theorem dX4_takenCount_27 : decode cX4_takenCount 27 = .ok (.iload_n 1, 1) := by decide +kernel
theorem dX4_takenCount_28 : decode cX4_takenCount 28 = .ok (.ireturn, 1) := by decide +kernel
theorem dX4_keepChapters_0 : decode cX4_keepChapters 0 = .ok (.aload_n 0, 1) := by decide +kernel
theorem dX4_keepChapters_1 : decode cX4_keepChapters 1 = .ok (.iload_n 1, 1) := by decide +kernel
theorem dX4_keepChapters_2 : decode cX4_keepChapters 2 = .ok (.invokevirtual 40, 3) := by decide +kernel
theorem dX4_keepChapters_5 : decode cX4_keepChapters 5 = .ok (.ifCond .eq 23, 3) := by decide +kernel
theorem dX4_keepChapters_8 : decode cX4_keepChapters 8 = .ok (.aload_n 0, 1) := by decide +kernel
theorem dX4_keepChapters_9 : decode cX4_keepChapters 9 = .ok (.getfield 32, 3) := by decide +kernel
theorem dX4_keepChapters_12 : decode cX4_keepChapters 12 = .ok (.iload_n 1, 1) := by decide +kernel
theorem dX4_keepChapters_13 : decode cX4_keepChapters 13 = .ok (.aaload, 1) := by decide +kernel
theorem dX4_keepChapters_14 : decode cX4_keepChapters 14 = .ok (.aload_n 0, 1) := by decide +kernel
theorem dX4_keepChapters_15 : decode cX4_keepChapters 15 = .ok (.getfield 21, 3) := by decide +kernel
theorem dX4_keepChapters_18 : decode cX4_keepChapters 18 = .ok (.invokevirtual 44, 3) := by decide +kernel
theorem dX4_keepChapters_21 : decode cX4_keepChapters 21 = .ok (.aload_n 0, 1) := by decide +kernel
theorem dX4_keepChapters_22 : decode cX4_keepChapters 22 = .ok (.getfield 36, 3) := by decide +kernel
theorem dX4_keepChapters_25 : decode cX4_keepChapters 25 = .ok (.iload_n 1, 1) := by decide +kernel
theorem dX4_keepChapters_26 : decode cX4_keepChapters 26 = .ok (.iconst 1, 1) := by decide +kernel
theorem dX4_keepChapters_27 : decode cX4_keepChapters 27 = .ok (.bastore, 1) := by decide +kernel
theorem dX4_keepChapters_28 : decode cX4_keepChapters 28 = .ok (.return_, 1) := by decide +kernel
theorem dX4_bringChapters_0 : decode cX4_bringChapters 0 = .ok (.aload_n 0, 1) := by decide +kernel
theorem dX4_bringChapters_1 : decode cX4_bringChapters 1 = .ok (.iload_n 1, 1) := by decide +kernel
theorem dX4_bringChapters_2 : decode cX4_bringChapters 2 = .ok (.invokevirtual 48, 3) := by decide +kernel
theorem dX4_bringChapters_5 : decode cX4_bringChapters 5 = .ok (.ifCond .eq 16, 3) := by decide +kernel
theorem dX4_bringChapters_8 : decode cX4_bringChapters 8 = .ok (.aload_n 0, 1) := by decide +kernel
theorem dX4_bringChapters_9 : decode cX4_bringChapters 9 = .ok (.getfield 21, 3) := by decide +kernel
theorem dX4_bringChapters_12 : decode cX4_bringChapters 12 = .ok (.aload_n 0, 1) := by decide +kernel
theorem dX4_bringChapters_13 : decode cX4_bringChapters 13 = .ok (.getfield 32, 3) := by decide +kernel
theorem dX4_bringChapters_16 : decode cX4_bringChapters 16 = .ok (.iload_n 1, 1) := by decide +kernel
theorem dX4_bringChapters_17 : decode cX4_bringChapters 17 = .ok (.aaload, 1) := by decide +kernel
theorem dX4_bringChapters_18 : decode cX4_bringChapters 18 = .ok (.invokevirtual 44, 3) := by decide +kernel
theorem dX4_bringChapters_21 : decode cX4_bringChapters 21 = .ok (.return_, 1) := by decide +kernel
theorem dX4_mayHaveBase_0 : decode cX4_mayHaveBase 0 = .ok (.iload_n 2, 1) := by decide +kernel
theorem dX4_mayHaveBase_1 : decode cX4_mayHaveBase 1 = .ok (.iload_n 1, 1) := by decide +kernel
theorem dX4_mayHaveBase_2 : decode cX4_mayHaveBase 2 = .ok (.if_icmp .eq 27, 3) := by decide +kernel
theorem dX4_mayHaveBase_5 : decode cX4_mayHaveBase 5 = .ok (.aload_n 0, 1) := by decide +kernel
theorem dX4_mayHaveBase_6 : decode cX4_mayHaveBase 6 = .ok (.getfield 12, 3) := by decide +kernel
theorem dX4_mayHaveBase_9 : decode cX4_mayHaveBase 9 = .ok (.iload_n 2, 1) := by decide +kernel
theorem dX4_mayHaveBase_10 : decode cX4_mayHaveBase 10 = .ok (.invokevirtual 51, 3) := by decide +kernel
theorem dX4_mayHaveBase_13 : decode cX4_mayHaveBase 13 = .ok (.ifCond .ne 14, 3) := by decide +kernel
theorem dX4_mayHaveBase_16 : decode cX4_mayHaveBase 16 = .ok (.aload_n 0, 1) := by decide +kernel
theorem dX4_mayHaveBase_17 : decode cX4_mayHaveBase 17 = .ok (.getfield 12, 3) := by decide +kernel
theorem dX4_mayHaveBase_20 : decode cX4_mayHaveBase 20 = .ok (.iload_n 1, 1) := by decide +kernel
theorem dX4_mayHaveBase_21 : decode cX4_mayHaveBase 21 = .ok (.invokevirtual 54, 3) := by decide +kernel
theorem dX4_mayHaveBase_24 : decode cX4_mayHaveBase 24 = .ok (.ifCond .eq 5, 3) := by decide +kernel
theorem dX4_mayHaveBase_27 : decode cX4_mayHaveBase 27 = .ok (.iconst 0, 1) := by decide +kernel
theorem dX4_mayHaveBase_28 : decode cX4_mayHaveBase 28 = .ok (.ireturn, 1) := by decide +kernel
theorem dX4_mayHaveBase_29 : decode cX4_mayHaveBase 29 = .ok (.aload_n 0, 1) := by decide +kernel
theorem dX4_mayHaveBase_30 : decode cX4_mayHaveBase 30 = .ok (.getfield 12, 3) := by decide +kernel
theorem dX4_mayHaveBase_33 : decode cX4_mayHaveBase 33 = .ok (.iload_n 1, 1) := by decide +kernel
theorem dX4_mayHaveBase_34 : decode cX4_mayHaveBase 34 = .ok (.invokevirtual 57, 3) := by decide +kernel
theorem dX4_mayHaveBase_37 : decode cX4_mayHaveBase 37 = .ok (.istore_n 3, 1) := by decide +kernel
theorem dX4_mayHaveBase_38 : decode cX4_mayHaveBase 38 = .ok (.aload_n 0, 1) := by decide +kernel
theorem dX4_mayHaveBase_39 : decode cX4_mayHaveBase 39 = .ok (.getfield 12, 3) := by decide +kernel
theorem dX4_mayHaveBase_42 : decode cX4_mayHaveBase 42 = .ok (.iload_n 1, 1) := by decide +kernel
theorem dX4_mayHaveBase_43 : decode cX4_mayHaveBase 43 = .ok (.iload_n 2, 1) := by decide +kernel
theorem dX4_mayHaveBase_44 : decode cX4_mayHaveBase 44 = .ok (.invokevirtual 61, 3) := by decide +kernel
theorem dX4_mayHaveBase_47 : decode cX4_mayHaveBase 47 = .ok (.aload_n 0, 1) := by decide +kernel
theorem dX4_mayHaveBase_48 : decode cX4_mayHaveBase 48 = .ok (.getfield 28, 3) := by decide +kernel
theorem dX4_mayHaveBase_51 : decode cX4_mayHaveBase 51 = .ok (.aload_n 0, 1) := by decide +kernel
theorem dX4_mayHaveBase_52 : decode cX4_mayHaveBase 52 = .ok (.getfield 12, 3) := by decide +kernel
theorem dX4_mayHaveBase_55 : decode cX4_mayHaveBase 55 = .ok (.invokevirtual 65, 3) := by decide +kernel
theorem dX4_mayHaveBase_58 : decode cX4_mayHaveBase 58 = .ok (.istore 4, 2) := by decide +kernel
theorem dX4_mayHaveBase_60 : decode cX4_mayHaveBase 60 = .ok (.aload_n 0, 1) := by decide +kernel
theorem dX4_mayHaveBase_61 : decode cX4_mayHaveBase 61 = .ok (.getfield 12, 3) := by decide +kernel
theorem dX4_mayHaveBase_64 : decode cX4_mayHaveBase 64 = .ok (.iload_n 1, 1) := by decide +kernel
theorem dX4_mayHaveBase_65 : decode cX4_mayHaveBase 65 = .ok (.iload_n 3, 1) := by decide +kernel
theorem dX4_mayHaveBase_66 : decode cX4_mayHaveBase 66 = .ok (.invokevirtual 61, 3) := by decide +kernel
theorem dX4_mayHaveBase_69 : decode cX4_mayHaveBase 69 = .ok (.iload 4, 2) := by decide +kernel
theorem dX4_mayHaveBase_71 : decode cX4_mayHaveBase 71 = .ok (.ifCond .ne 7, 3) := by decide +kernel
theorem dX4_mayHaveBase_74 : decode cX4_mayHaveBase 74 = .ok (.iconst 1, 1) := by decide +kernel
theorem dX4_mayHaveBase_75 : decode cX4_mayHaveBase 75 = .ok (.goto 4, 3) := by decide +kernel
theorem dX4_mayHaveBase_78 : decode cX4_mayHaveBase 78 = .ok (.iconst 0, 1) := by decide +kernel
theorem dX4_mayHaveBase_79 : decode cX4_mayHaveBase 79 = .ok (.ireturn, 1) := by decide +kernel
theorem dX4_occursAt_0 : decode cX4_occursAt 0 = .ok (.aload_n 0, 1) := by decide +kernel
theorem dX4_occursAt_1 : decode cX4_occursAt 1 = .ok (.getfield 28, 3) := by decide +kernel
theorem dX4_occursAt_4 : decode cX4_occursAt 4 = .ok (.iload_n 1, 1) := by decide +kernel
theorem dX4_occursAt_5 : decode cX4_occursAt 5 = .ok (.invokevirtual 69, 3) := by decide +kernel
theorem dX4_occursAt_8 : decode cX4_occursAt 8 = .ok (.istore 4, 2) := by decide +kernel
theorem dX4_occursAt_10 : decode cX4_occursAt 10 = .ok (.iload 4, 2) := by decide +kernel
theorem dX4_occursAt_12 : decode cX4_occursAt 12 = .ok (.ifCond .eq 22, 3) := by decide +kernel
theorem dX4_occursAt_15 : decode cX4_occursAt 15 = .ok (.iload_n 3, 1) := by decide +kernel
theorem dX4_occursAt_16 : decode cX4_occursAt 16 = .ok (.ifCond .lt 18, 3) := by decide +kernel
theorem dX4_occursAt_19 : decode cX4_occursAt 19 = .ok (.iload_n 3, 1) := by decide +kernel
theorem dX4_occursAt_20 : decode cX4_occursAt 20 = .ok (.aload_n 0, 1) := by decide +kernel
theorem dX4_occursAt_21 : decode cX4_occursAt 21 = .ok (.getfield 21, 3) := by decide +kernel
theorem dX4_occursAt_24 : decode cX4_occursAt 24 = .ok (.iload_n 2, 1) := by decide +kernel
theorem dX4_occursAt_25 : decode cX4_occursAt 25 = .ok (.invokevirtual 72, 3) := by decide +kernel
theorem dX4_occursAt_28 : decode cX4_occursAt 28 = .ok (.iload 4, 2) := by decide +kernel
theorem dX4_occursAt_30 : decode cX4_occursAt 30 = .ok (.isub, 1) := by decide +kernel
theorem dX4_occursAt_31 : decode cX4_occursAt 31 = .ok (.if_icmp .le 5, 3) := by decide +kernel
theorem dX4_occursAt_34 : decode cX4_occursAt 34 = .ok (.iconst 0, 1) := by decide +kernel
theorem dX4_occursAt_35 : decode cX4_occursAt 35 = .ok (.ireturn, 1) := by decide +kernel
theorem dX4_occursAt_36 : decode cX4_occursAt 36 = .ok (.iconst 0, 1) := by decide +kernel
theorem dX4_occursAt_37 : decode cX4_occursAt 37 = .ok (.istore 5, 2) := by decide +kernel
theorem dX4_occursAt_39 : decode cX4_occursAt 39 = .ok (.iload 5, 2) := by decide +kernel
theorem dX4_occursAt_41 : decode cX4_occursAt 41 = .ok (.iload 4, 2) := by decide +kernel
theorem dX4_occursAt_43 : decode cX4_occursAt 43 = .ok (.if_icmp .ge 50, 3) := by decide +kernel
theorem dX4_occursAt_46 : decode cX4_occursAt 46 = .ok (.aload_n 0, 1) := by decide +kernel
theorem dX4_occursAt_47 : decode cX4_occursAt 47 = .ok (.getfield 12, 3) := by decide +kernel
theorem dX4_occursAt_50 : decode cX4_occursAt 50 = .ok (.aload_n 0, 1) := by decide +kernel
theorem dX4_occursAt_51 : decode cX4_occursAt 51 = .ok (.getfield 28, 3) := by decide +kernel
theorem dX4_occursAt_54 : decode cX4_occursAt 54 = .ok (.iload_n 1, 1) := by decide +kernel
theorem dX4_occursAt_55 : decode cX4_occursAt 55 = .ok (.iload 5, 2) := by decide +kernel
theorem dX4_occursAt_57 : decode cX4_occursAt 57 = .ok (.invokevirtual 73, 3) := by decide +kernel
theorem dX4_occursAt_60 : decode cX4_occursAt 60 = .ok (.invokevirtual 57, 3) := by decide +kernel
theorem dX4_occursAt_63 : decode cX4_occursAt 63 = .ok (.aload_n 0, 1) := by decide +kernel
theorem dX4_occursAt_64 : decode cX4_occursAt 64 = .ok (.getfield 12, 3) := by decide +kernel
theorem dX4_occursAt_67 : decode cX4_occursAt 67 = .ok (.aload_n 0, 1) := by decide +kernel
theorem dX4_occursAt_68 : decode cX4_occursAt 68 = .ok (.getfield 21, 3) := by decide +kernel
theorem dX4_occursAt_71 : decode cX4_occursAt 71 = .ok (.iload_n 2, 1) := by decide +kernel
theorem dX4_occursAt_72 : decode cX4_occursAt 72 = .ok (.iload_n 3, 1) := by decide +kernel
theorem dX4_occursAt_73 : decode cX4_occursAt 73 = .ok (.iload 5, 2) := by decide +kernel
theorem dX4_occursAt_75 : decode cX4_occursAt 75 = .ok (.iadd, 1) := by decide +kernel
theorem dX4_occursAt_76 : decode cX4_occursAt 76 = .ok (.invokevirtual 77, 3) := by decide +kernel
theorem dX4_occursAt_79 : decode cX4_occursAt 79 = .ok (.invokevirtual 57, 3) := by decide +kernel
theorem dX4_occursAt_82 : decode cX4_occursAt 82 = .ok (.if_icmp .eq 5, 3) := by decide +kernel
theorem dX4_occursAt_85 : decode cX4_occursAt 85 = .ok (.iconst 0, 1) := by decide +kernel
theorem dX4_occursAt_86 : decode cX4_occursAt 86 = .ok (.ireturn, 1) := by decide +kernel
theorem dX4_occursAt_87 : decode cX4_occursAt 87 = .ok (.iinc 5 1, 3) := by decide +kernel
theorem dX4_occursAt_90 : decode cX4_occursAt 90 = .ok (.goto (-51), 3) := by decide +kernel
theorem dX4_occursAt_93 : decode cX4_occursAt 93 = .ok (.iconst 1, 1) := by decide +kernel
theorem dX4_occursAt_94 : decode cX4_occursAt 94 = .ok (.ireturn, 1) := by decide +kernel
theorem dX4_occurrences_0 : decode cX4_occurrences 0 = .ok (.iconst 0, 1) := by decide +kernel
theorem dX4_occurrences_1 : decode cX4_occurrences 1 = .ok (.istore_n 2, 1) := by decide +kernel
theorem dX4_occurrences_2 : decode cX4_occurrences 2 = .ok (.iconst 0, 1) := by decide +kernel
theorem dX4_occurrences_3 : decode cX4_occurrences 3 = .ok (.istore_n 3, 1) := by decide +kernel
theorem dX4_occurrences_4 : decode cX4_occurrences 4 = .ok (.iload_n 3, 1) := by decide +kernel
theorem dX4_occurrences_5 : decode cX4_occurrences 5 = .ok (.bipush 6, 2) := by decide +kernel
theorem dX4_occurrences_7 : decode cX4_occurrences 7 = .ok (.if_icmp .ge 45, 3) := by decide +kernel
theorem dX4_occurrences_10 : decode cX4_occurrences 10 = .ok (.iconst 0, 1) := by decide +kernel
theorem dX4_occurrences_11 : decode cX4_occurrences 11 = .ok (.istore 4, 2) := by decide +kernel
theorem dX4_occurrences_13 : decode cX4_occurrences 13 = .ok (.iload 4, 2) := by decide +kernel
theorem dX4_occurrences_15 : decode cX4_occurrences 15 = .ok (.aload_n 0, 1) := by decide +kernel
theorem dX4_occurrences_16 : decode cX4_occurrences 16 = .ok (.getfield 21, 3) := by decide +kernel
theorem dX4_occurrences_19 : decode cX4_occurrences 19 = .ok (.iload_n 3, 1) := by decide +kernel
theorem dX4_occurrences_20 : decode cX4_occurrences 20 = .ok (.invokevirtual 72, 3) := by decide +kernel
theorem dX4_occurrences_23 : decode cX4_occurrences 23 = .ok (.if_icmp .ge 23, 3) := by decide +kernel
theorem dX4_occurrences_26 : decode cX4_occurrences 26 = .ok (.aload_n 0, 1) := by decide +kernel
theorem dX4_occurrences_27 : decode cX4_occurrences 27 = .ok (.iload_n 1, 1) := by decide +kernel
theorem dX4_occurrences_28 : decode cX4_occurrences 28 = .ok (.iload_n 3, 1) := by decide +kernel
theorem dX4_occurrences_29 : decode cX4_occurrences 29 = .ok (.iload 4, 2) := by decide +kernel
theorem dX4_occurrences_31 : decode cX4_occurrences 31 = .ok (.invokevirtual 78, 3) := by decide +kernel
theorem dX4_occurrences_34 : decode cX4_occurrences 34 = .ok (.ifCond .eq 6, 3) := by decide +kernel
theorem dX4_occurrences_37 : decode cX4_occurrences 37 = .ok (.iinc 2 1, 3) := by decide +kernel
theorem dX4_occurrences_40 : decode cX4_occurrences 40 = .ok (.iinc 4 1, 3) := by decide +kernel
theorem dX4_occurrences_43 : decode cX4_occurrences 43 = .ok (.goto (-30), 3) := by decide +kernel
theorem dX4_occurrences_46 : decode cX4_occurrences 46 = .ok (.iinc 3 1, 3) := by decide +kernel
theorem dX4_occurrences_49 : decode cX4_occurrences 49 = .ok (.goto (-45), 3) := by decide +kernel
theorem dX4_occurrences_52 : decode cX4_occurrences 52 = .ok (.iload_n 2, 1) := by decide +kernel
theorem dX4_occurrences_53 : decode cX4_occurrences 53 = .ok (.ireturn, 1) := by decide +kernel
theorem dX4_longestAt_0 : decode cX4_longestAt 0 = .ok (.bipush (-99), 2) := by decide +kernel
theorem dX4_longestAt_2 : decode cX4_longestAt 2 = .ok (.istore_n 3, 1) := by decide +kernel
theorem dX4_longestAt_3 : decode cX4_longestAt 3 = .ok (.iconst 0, 1) := by decide +kernel
theorem dX4_longestAt_4 : decode cX4_longestAt 4 = .ok (.istore 4, 2) := by decide +kernel
theorem dX4_longestAt_6 : decode cX4_longestAt 6 = .ok (.iload 4, 2) := by decide +kernel
theorem dX4_longestAt_8 : decode cX4_longestAt 8 = .ok (.aload_n 0, 1) := by decide +kernel
theorem dX4_longestAt_9 : decode cX4_longestAt 9 = .ok (.getfield 28, 3) := by decide +kernel
theorem dX4_longestAt_12 : decode cX4_longestAt 12 = .ok (.invokevirtual 82, 3) := by decide +kernel
theorem dX4_longestAt_15 : decode cX4_longestAt 15 = .ok (.if_icmp .ge 43, 3) := by decide +kernel
theorem dX4_longestAt_18 : decode cX4_longestAt 18 = .ok (.aload_n 0, 1) := by decide +kernel
theorem dX4_longestAt_19 : decode cX4_longestAt 19 = .ok (.getfield 28, 3) := by decide +kernel
theorem dX4_longestAt_22 : decode cX4_longestAt 22 = .ok (.iload 4, 2) := by decide +kernel
theorem dX4_longestAt_24 : decode cX4_longestAt 24 = .ok (.invokevirtual 69, 3) := by decide +kernel
theorem dX4_longestAt_27 : decode cX4_longestAt 27 = .ok (.aload_n 0, 1) := by decide +kernel
theorem dX4_longestAt_28 : decode cX4_longestAt 28 = .ok (.getfield 28, 3) := by decide +kernel
theorem dX4_longestAt_31 : decode cX4_longestAt 31 = .ok (.iload_n 3, 1) := by decide +kernel
theorem dX4_longestAt_32 : decode cX4_longestAt 32 = .ok (.invokevirtual 69, 3) := by decide +kernel
theorem dX4_longestAt_35 : decode cX4_longestAt 35 = .ok (.if_icmp .le 17, 3) := by decide +kernel
theorem dX4_longestAt_38 : decode cX4_longestAt 38 = .ok (.aload_n 0, 1) := by decide +kernel
theorem dX4_longestAt_39 : decode cX4_longestAt 39 = .ok (.iload 4, 2) := by decide +kernel
theorem dX4_longestAt_41 : decode cX4_longestAt 41 = .ok (.iload_n 1, 1) := by decide +kernel
theorem dX4_longestAt_42 : decode cX4_longestAt 42 = .ok (.iload_n 2, 1) := by decide +kernel
theorem dX4_longestAt_43 : decode cX4_longestAt 43 = .ok (.invokevirtual 78, 3) := by decide +kernel
theorem dX4_longestAt_46 : decode cX4_longestAt 46 = .ok (.ifCond .eq 6, 3) := by decide +kernel
theorem dX4_longestAt_49 : decode cX4_longestAt 49 = .ok (.iload 4, 2) := by decide +kernel
theorem dX4_longestAt_51 : decode cX4_longestAt 51 = .ok (.istore_n 3, 1) := by decide +kernel
theorem dX4_longestAt_52 : decode cX4_longestAt 52 = .ok (.iinc 4 1, 3) := by decide +kernel
theorem dX4_longestAt_55 : decode cX4_longestAt 55 = .ok (.goto (-49), 3) := by decide +kernel
theorem dX4_longestAt_58 : decode cX4_longestAt 58 = .ok (.iload_n 3, 1) := by decide +kernel
theorem dX4_longestAt_59 : decode cX4_longestAt 59 = .ok (.ireturn, 1) := by decide +kernel
theorem dX4_timesWithin_0 : decode cX4_timesWithin 0 = .ok (.iconst 0, 1) := by decide +kernel
theorem dX4_timesWithin_1 : decode cX4_timesWithin 1 = .ok (.istore_n 3, 1) := by decide +kernel
theorem dX4_timesWithin_2 : decode cX4_timesWithin 2 = .ok (.iconst 0, 1) := by decide +kernel
theorem dX4_timesWithin_3 : decode cX4_timesWithin 3 = .ok (.istore 4, 2) := by decide +kernel
theorem dX4_timesWithin_5 : decode cX4_timesWithin 5 = .ok (.iload 4, 2) := by decide +kernel
theorem dX4_timesWithin_7 : decode cX4_timesWithin 7 = .ok (.aload_n 0, 1) := by decide +kernel
theorem dX4_timesWithin_8 : decode cX4_timesWithin 8 = .ok (.getfield 28, 3) := by decide +kernel
theorem dX4_timesWithin_11 : decode cX4_timesWithin 11 = .ok (.iload_n 2, 1) := by decide +kernel
theorem dX4_timesWithin_12 : decode cX4_timesWithin 12 = .ok (.invokevirtual 69, 3) := by decide +kernel
theorem dX4_timesWithin_15 : decode cX4_timesWithin 15 = .ok (.aload_n 0, 1) := by decide +kernel
theorem dX4_timesWithin_16 : decode cX4_timesWithin 16 = .ok (.getfield 28, 3) := by decide +kernel
theorem dX4_timesWithin_19 : decode cX4_timesWithin 19 = .ok (.iload_n 1, 1) := by decide +kernel
theorem dX4_timesWithin_20 : decode cX4_timesWithin 20 = .ok (.invokevirtual 69, 3) := by decide +kernel
theorem dX4_timesWithin_23 : decode cX4_timesWithin 23 = .ok (.isub, 1) := by decide +kernel
theorem dX4_timesWithin_24 : decode cX4_timesWithin 24 = .ok (.if_icmp .gt 23, 3) := by decide +kernel
theorem dX4_timesWithin_27 : decode cX4_timesWithin 27 = .ok (.aload_n 0, 1) := by decide +kernel
theorem dX4_timesWithin_28 : decode cX4_timesWithin 28 = .ok (.iload_n 1, 1) := by decide +kernel
theorem dX4_timesWithin_29 : decode cX4_timesWithin 29 = .ok (.iload_n 2, 1) := by decide +kernel
theorem dX4_timesWithin_30 : decode cX4_timesWithin 30 = .ok (.iload 4, 2) := by decide +kernel
theorem dX4_timesWithin_32 : decode cX4_timesWithin 32 = .ok (.invokevirtual 86, 3) := by decide +kernel
theorem dX4_timesWithin_35 : decode cX4_timesWithin 35 = .ok (.ifCond .eq 6, 3) := by decide +kernel
theorem dX4_timesWithin_38 : decode cX4_timesWithin 38 = .ok (.iinc 3 1, 3) := by decide +kernel
theorem dX4_timesWithin_41 : decode cX4_timesWithin 41 = .ok (.iinc 4 1, 3) := by decide +kernel
theorem dX4_timesWithin_44 : decode cX4_timesWithin 44 = .ok (.goto (-39), 3) := by decide +kernel
theorem dX4_timesWithin_47 : decode cX4_timesWithin 47 = .ok (.iload_n 3, 1) := by decide +kernel
theorem dX4_timesWithin_48 : decode cX4_timesWithin 48 = .ok (.ireturn, 1) := by decide +kernel
theorem dX4_occursWithin_0 : decode cX4_occursWithin 0 = .ok (.iconst 0, 1) := by decide +kernel
theorem dX4_occursWithin_1 : decode cX4_occursWithin 1 = .ok (.istore 4, 2) := by decide +kernel
theorem dX4_occursWithin_3 : decode cX4_occursWithin 3 = .ok (.iload 4, 2) := by decide +kernel
theorem dX4_occursWithin_5 : decode cX4_occursWithin 5 = .ok (.aload_n 0, 1) := by decide +kernel
theorem dX4_occursWithin_6 : decode cX4_occursWithin 6 = .ok (.getfield 28, 3) := by decide +kernel
theorem dX4_occursWithin_9 : decode cX4_occursWithin 9 = .ok (.iload_n 1, 1) := by decide +kernel
theorem dX4_occursWithin_10 : decode cX4_occursWithin 10 = .ok (.invokevirtual 69, 3) := by decide +kernel
theorem dX4_occursWithin_13 : decode cX4_occursWithin 13 = .ok (.if_icmp .ge 50, 3) := by decide +kernel
theorem dX4_occursWithin_16 : decode cX4_occursWithin 16 = .ok (.aload_n 0, 1) := by decide +kernel
theorem dX4_occursWithin_17 : decode cX4_occursWithin 17 = .ok (.getfield 12, 3) := by decide +kernel
theorem dX4_occursWithin_20 : decode cX4_occursWithin 20 = .ok (.aload_n 0, 1) := by decide +kernel
theorem dX4_occursWithin_21 : decode cX4_occursWithin 21 = .ok (.getfield 28, 3) := by decide +kernel
theorem dX4_occursWithin_24 : decode cX4_occursWithin 24 = .ok (.iload_n 1, 1) := by decide +kernel
theorem dX4_occursWithin_25 : decode cX4_occursWithin 25 = .ok (.iload 4, 2) := by decide +kernel
theorem dX4_occursWithin_27 : decode cX4_occursWithin 27 = .ok (.invokevirtual 73, 3) := by decide +kernel
theorem dX4_occursWithin_30 : decode cX4_occursWithin 30 = .ok (.invokevirtual 57, 3) := by decide +kernel
theorem dX4_occursWithin_33 : decode cX4_occursWithin 33 = .ok (.aload_n 0, 1) := by decide +kernel
theorem dX4_occursWithin_34 : decode cX4_occursWithin 34 = .ok (.getfield 12, 3) := by decide +kernel
theorem dX4_occursWithin_37 : decode cX4_occursWithin 37 = .ok (.aload_n 0, 1) := by decide +kernel
theorem dX4_occursWithin_38 : decode cX4_occursWithin 38 = .ok (.getfield 28, 3) := by decide +kernel
theorem dX4_occursWithin_41 : decode cX4_occursWithin 41 = .ok (.iload_n 2, 1) := by decide +kernel
theorem dX4_occursWithin_42 : decode cX4_occursWithin 42 = .ok (.iload_n 3, 1) := by decide +kernel
theorem dX4_occursWithin_43 : decode cX4_occursWithin 43 = .ok (.iload 4, 2) := by decide +kernel
theorem dX4_occursWithin_45 : decode cX4_occursWithin 45 = .ok (.iadd, 1) := by decide +kernel
theorem dX4_occursWithin_46 : decode cX4_occursWithin 46 = .ok (.invokevirtual 73, 3) := by decide +kernel
theorem dX4_occursWithin_49 : decode cX4_occursWithin 49 = .ok (.invokevirtual 57, 3) := by decide +kernel
theorem dX4_occursWithin_52 : decode cX4_occursWithin 52 = .ok (.if_icmp .eq 5, 3) := by decide +kernel
theorem dX4_occursWithin_55 : decode cX4_occursWithin 55 = .ok (.iconst 0, 1) := by decide +kernel
theorem dX4_occursWithin_56 : decode cX4_occursWithin 56 = .ok (.ireturn, 1) := by decide +kernel
theorem dX4_occursWithin_57 : decode cX4_occursWithin 57 = .ok (.iinc 4 1, 3) := by decide +kernel
theorem dX4_occursWithin_60 : decode cX4_occursWithin 60 = .ok (.goto (-57), 3) := by decide +kernel
theorem dX4_occursWithin_63 : decode cX4_occursWithin 63 = .ok (.iconst 1, 1) := by decide +kernel
theorem dX4_occursWithin_64 : decode cX4_occursWithin 64 = .ok (.ireturn, 1) := by decide +kernel
theorem dX4_copyFrom_0 : decode cX4_copyFrom 0 = .ok (.aload_n 0, 1) := by decide +kernel
theorem dX4_copyFrom_1 : decode cX4_copyFrom 1 = .ok (.getfield 12, 3) := by decide +kernel
theorem dX4_copyFrom_4 : decode cX4_copyFrom 4 = .ok (.aload_n 1, 1) := by decide +kernel
theorem dX4_copyFrom_5 : decode cX4_copyFrom 5 = .ok (.getfield 12, 3) := by decide +kernel
theorem dX4_copyFrom_8 : decode cX4_copyFrom 8 = .ok (.invokevirtual 89, 3) := by decide +kernel
theorem dX4_copyFrom_11 : decode cX4_copyFrom 11 = .ok (.aload_n 0, 1) := by decide +kernel
theorem dX4_copyFrom_12 : decode cX4_copyFrom 12 = .ok (.getfield 21, 3) := by decide +kernel
theorem dX4_copyFrom_15 : decode cX4_copyFrom 15 = .ok (.aload_n 1, 1) := by decide +kernel
theorem dX4_copyFrom_16 : decode cX4_copyFrom 16 = .ok (.getfield 21, 3) := by decide +kernel
theorem dX4_copyFrom_19 : decode cX4_copyFrom 19 = .ok (.invokevirtual 44, 3) := by decide +kernel
theorem dX4_copyFrom_22 : decode cX4_copyFrom 22 = .ok (.aload_n 0, 1) := by decide +kernel
theorem dX4_copyFrom_23 : decode cX4_copyFrom 23 = .ok (.getfield 28, 3) := by decide +kernel
theorem dX4_copyFrom_26 : decode cX4_copyFrom 26 = .ok (.aload_n 1, 1) := by decide +kernel
theorem dX4_copyFrom_27 : decode cX4_copyFrom 27 = .ok (.getfield 28, 3) := by decide +kernel
theorem dX4_copyFrom_30 : decode cX4_copyFrom 30 = .ok (.invokevirtual 92, 3) := by decide +kernel
theorem dX4_copyFrom_33 : decode cX4_copyFrom 33 = .ok (.iconst 0, 1) := by decide +kernel
theorem dX4_copyFrom_34 : decode cX4_copyFrom 34 = .ok (.istore_n 2, 1) := by decide +kernel
theorem dX4_copyFrom_35 : decode cX4_copyFrom 35 = .ok (.iload_n 2, 1) := by decide +kernel
theorem dX4_copyFrom_36 : decode cX4_copyFrom 36 = .ok (.iconst 2, 1) := by decide +kernel
theorem dX4_copyFrom_37 : decode cX4_copyFrom 37 = .ok (.if_icmp .ge 36, 3) := by decide +kernel
theorem dX4_copyFrom_40 : decode cX4_copyFrom 40 = .ok (.aload_n 0, 1) := by decide +kernel
theorem dX4_copyFrom_41 : decode cX4_copyFrom 41 = .ok (.getfield 32, 3) := by decide +kernel
theorem dX4_copyFrom_44 : decode cX4_copyFrom 44 = .ok (.iload_n 2, 1) := by decide +kernel
theorem dX4_copyFrom_45 : decode cX4_copyFrom 45 = .ok (.aaload, 1) := by decide +kernel
theorem dX4_copyFrom_46 : decode cX4_copyFrom 46 = .ok (.aload_n 1, 1) := by decide +kernel
theorem dX4_copyFrom_47 : decode cX4_copyFrom 47 = .ok (.getfield 32, 3) := by decide +kernel
theorem dX4_copyFrom_50 : decode cX4_copyFrom 50 = .ok (.iload_n 2, 1) := by decide +kernel
theorem dX4_copyFrom_51 : decode cX4_copyFrom 51 = .ok (.aaload, 1) := by decide +kernel
theorem dX4_copyFrom_52 : decode cX4_copyFrom 52 = .ok (.invokevirtual 44, 3) := by decide +kernel
theorem dX4_copyFrom_55 : decode cX4_copyFrom 55 = .ok (.aload_n 0, 1) := by decide +kernel
theorem dX4_copyFrom_56 : decode cX4_copyFrom 56 = .ok (.getfield 36, 3) := by decide +kernel
theorem dX4_copyFrom_59 : decode cX4_copyFrom 59 = .ok (.iload_n 2, 1) := by decide +kernel
theorem dX4_copyFrom_60 : decode cX4_copyFrom 60 = .ok (.aload_n 1, 1) := by decide +kernel
theorem dX4_copyFrom_61 : decode cX4_copyFrom 61 = .ok (.getfield 36, 3) := by decide +kernel
theorem dX4_copyFrom_64 : decode cX4_copyFrom 64 = .ok (.iload_n 2, 1) := by decide +kernel
theorem dX4_copyFrom_65 : decode cX4_copyFrom 65 = .ok (.baload, 1) := by decide +kernel
theorem dX4_copyFrom_66 : decode cX4_copyFrom 66 = .ok (.bastore, 1) := by decide +kernel
theorem dX4_copyFrom_67 : decode cX4_copyFrom 67 = .ok (.iinc 2 1, 3) := by decide +kernel
theorem dX4_copyFrom_70 : decode cX4_copyFrom 70 = .ok (.goto (-35), 3) := by decide +kernel
theorem dX4_copyFrom_73 : decode cX4_copyFrom 73 = .ok (.return_, 1) := by decide +kernel
theorem dX5_init_0 : decode cX5_init 0 = .ok (.aload_n 0, 1) := by decide +kernel
theorem dX5_init_1 : decode cX5_init 1 = .ok (.invokespecial 5, 3) := by decide +kernel
theorem dX5_init_4 : decode cX5_init 4 = .ok (.aload_n 0, 1) := by decide +kernel
theorem dX5_init_5 : decode cX5_init 5 = .ok (.bipush 13, 2) := by decide +kernel
theorem dX5_init_7 : decode cX5_init 7 = .ok (.iconst 4, 1) := by decide +kernel
theorem dX5_init_8 : decode cX5_init 8 = .ok (.multianewarray 11 2, 4) := by decide +kernel
theorem dX5_init_12 : decode cX5_init 12 = .ok (.putfield 13, 3) := by decide +kernel
theorem dX5_init_15 : decode cX5_init 15 = .ok (.aload_n 0, 1) := by decide +kernel
theorem dX5_init_16 : decode cX5_init 16 = .ok (.bipush 13, 2) := by decide +kernel
theorem dX5_init_18 : decode cX5_init 18 = .ok (.newarray .int, 2) := by decide +kernel
theorem dX5_init_20 : decode cX5_init 20 = .ok (.putfield 16, 3) := by decide +kernel
theorem dX5_init_23 : decode cX5_init 23 = .ok (.aload_n 0, 1) := by decide +kernel
theorem dX5_init_24 : decode cX5_init 24 = .ok (.bipush 13, 2) := by decide +kernel
theorem dX5_init_26 : decode cX5_init 26 = .ok (.newarray .boolean, 2) := by decide +kernel
theorem dX5_init_28 : decode cX5_init 28 = .ok (.putfield 20, 3) := by decide +kernel
theorem dX5_init_31 : decode cX5_init 31 = .ok (.aload_n 0, 1) := by decide +kernel
theorem dX5_init_32 : decode cX5_init 32 = .ok (.iconst 0, 1) := by decide +kernel
theorem dX5_init_33 : decode cX5_init 33 = .ok (.putfield 24, 3) := by decide +kernel
theorem dX5_init_36 : decode cX5_init 36 = .ok (.return_, 1) := by decide +kernel
theorem dX5_size_0 : decode cX5_size 0 = .ok (.aload_n 0, 1) := by decide +kernel
theorem dX5_size_1 : decode cX5_size 1 = .ok (.getfield 24, 3) := by decide +kernel
theorem dX5_size_4 : decode cX5_size 4 = .ok (.ireturn, 1) := by decide +kernel
theorem dX5_has_0 : decode cX5_has 0 = .ok (.iload_n 1, 1) := by decide +kernel
theorem dX5_has_1 : decode cX5_has 1 = .ok (.ifCond .lt 15, 3) := by decide +kernel
theorem dX5_has_4 : decode cX5_has 4 = .ok (.iload_n 1, 1) := by decide +kernel
theorem dX5_has_5 : decode cX5_has 5 = .ok (.aload_n 0, 1) := by decide +kernel
theorem dX5_has_6 : decode cX5_has 6 = .ok (.getfield 24, 3) := by decide +kernel
theorem dX5_has_9 : decode cX5_has 9 = .ok (.if_icmp .ge 7, 3) := by decide +kernel
theorem dX5_has_12 : decode cX5_has 12 = .ok (.iconst 1, 1) := by decide +kernel
theorem dX5_has_13 : decode cX5_has 13 = .ok (.goto 4, 3) := by decide +kernel
theorem dX5_has_16 : decode cX5_has 16 = .ok (.iconst 0, 1) := by decide +kernel
theorem dX5_has_17 : decode cX5_has 17 = .ok (.ireturn, 1) := by decide +kernel
theorem dX5_lengthOf_0 : decode cX5_lengthOf 0 = .ok (.iload_n 1, 1) := by decide +kernel
theorem dX5_lengthOf_1 : decode cX5_lengthOf 1 = .ok (.ifCond .lt 20, 3) := by decide +kernel
theorem dX5_lengthOf_4 : decode cX5_lengthOf 4 = .ok (.iload_n 1, 1) := by decide +kernel
theorem dX5_lengthOf_5 : decode cX5_lengthOf 5 = .ok (.aload_n 0, 1) := by decide +kernel
theorem dX5_lengthOf_6 : decode cX5_lengthOf 6 = .ok (.getfield 24, 3) := by decide +kernel
theorem dX5_lengthOf_9 : decode cX5_lengthOf 9 = .ok (.if_icmp .ge 12, 3) := by decide +kernel
theorem dX5_lengthOf_12 : decode cX5_lengthOf 12 = .ok (.aload_n 0, 1) := by decide +kernel
theorem dX5_lengthOf_13 : decode cX5_lengthOf 13 = .ok (.getfield 16, 3) := by decide +kernel
theorem dX5_lengthOf_16 : decode cX5_lengthOf 16 = .ok (.iload_n 1, 1) := by decide +kernel
theorem dX5_lengthOf_17 : decode cX5_lengthOf 17 = .ok (.iaload, 1) := by decide +kernel
theorem dX5_lengthOf_18 : decode cX5_lengthOf 18 = .ok (.goto 4, 3) := by decide +kernel
theorem dX5_lengthOf_21 : decode cX5_lengthOf 21 = .ok (.iconst 0, 1) := by decide +kernel
theorem dX5_lengthOf_22 : decode cX5_lengthOf 22 = .ok (.ireturn, 1) := by decide +kernel
theorem dX5_wordAt_0 : decode cX5_wordAt 0 = .ok (.iload_n 1, 1) := by decide +kernel
theorem dX5_wordAt_1 : decode cX5_wordAt 1 = .ok (.ifCond .lt 25, 3) := by decide +kernel
theorem dX5_wordAt_4 : decode cX5_wordAt 4 = .ok (.iload_n 1, 1) := by decide +kernel
theorem dX5_wordAt_5 : decode cX5_wordAt 5 = .ok (.aload_n 0, 1) := by decide +kernel
theorem dX5_wordAt_6 : decode cX5_wordAt 6 = .ok (.getfield 24, 3) := by decide +kernel
theorem dX5_wordAt_9 : decode cX5_wordAt 9 = .ok (.if_icmp .ge 17, 3) := by decide +kernel
theorem dX5_wordAt_12 : decode cX5_wordAt 12 = .ok (.iload_n 2, 1) := by decide +kernel
theorem dX5_wordAt_13 : decode cX5_wordAt 13 = .ok (.ifCond .lt 13, 3) := by decide +kernel
theorem dX5_wordAt_16 : decode cX5_wordAt 16 = .ok (.iload_n 2, 1) := by decide +kernel
theorem dX5_wordAt_17 : decode cX5_wordAt 17 = .ok (.aload_n 0, 1) := by decide +kernel
theorem dX5_wordAt_18 : decode cX5_wordAt 18 = .ok (.getfield 16, 3) := by decide +kernel
theorem dX5_wordAt_21 : decode cX5_wordAt 21 = .ok (.iload_n 1, 1) := by decide +kernel
theorem dX5_wordAt_22 : decode cX5_wordAt 22 = .ok (.iaload, 1) := by decide +kernel
theorem dX5_wordAt_23 : decode cX5_wordAt 23 = .ok (.if_icmp .lt 6, 3) := by decide +kernel
theorem dX5_wordAt_26 : decode cX5_wordAt 26 = .ok (.bipush (-99), 2) := by decide +kernel
theorem dX5_wordAt_28 : decode cX5_wordAt 28 = .ok (.ireturn, 1) := by decide +kernel
theorem dX5_wordAt_29 : decode cX5_wordAt 29 = .ok (.aload_n 0, 1) := by decide +kernel
theorem dX5_wordAt_30 : decode cX5_wordAt 30 = .ok (.getfield 13, 3) := by decide +kernel
theorem dX5_wordAt_33 : decode cX5_wordAt 33 = .ok (.iload_n 1, 1) := by decide +kernel
theorem dX5_wordAt_34 : decode cX5_wordAt 34 = .ok (.aaload, 1) := by decide +kernel
theorem dX5_wordAt_35 : decode cX5_wordAt 35 = .ok (.iload_n 2, 1) := by decide +kernel
theorem dX5_wordAt_36 : decode cX5_wordAt 36 = .ok (.iaload, 1) := by decide +kernel
theorem dX5_wordAt_37 : decode cX5_wordAt 37 = .ok (.ireturn, 1) := by decide +kernel
theorem dX5_isQuiet_0 : decode cX5_isQuiet 0 = .ok (.aload_n 0, 1) := by decide +kernel
theorem dX5_isQuiet_1 : decode cX5_isQuiet 1 = .ok (.iload_n 1, 1) := by decide +kernel
theorem dX5_isQuiet_2 : decode cX5_isQuiet 2 = .ok (.invokevirtual 28, 3) := by decide +kernel
theorem dX5_isQuiet_5 : decode cX5_isQuiet 5 = .ok (.ifCond .eq 16, 3) := by decide +kernel
theorem dX5_isQuiet_8 : decode cX5_isQuiet 8 = .ok (.aload_n 0, 1) := by decide +kernel
theorem dX5_isQuiet_9 : decode cX5_isQuiet 9 = .ok (.getfield 20, 3) := by decide +kernel
theorem dX5_isQuiet_12 : decode cX5_isQuiet 12 = .ok (.iload_n 1, 1) := by decide +kernel
theorem dX5_isQuiet_13 : decode cX5_isQuiet 13 = .ok (.baload, 1) := by decide +kernel
theorem dX5_isQuiet_14 : decode cX5_isQuiet 14 = .ok (.ifCond .eq 7, 3) := by decide +kernel
theorem dX5_isQuiet_17 : decode cX5_isQuiet 17 = .ok (.iconst 1, 1) := by decide +kernel
theorem dX5_isQuiet_18 : decode cX5_isQuiet 18 = .ok (.goto 4, 3) := by decide +kernel
theorem dX5_isQuiet_21 : decode cX5_isQuiet 21 = .ok (.iconst 0, 1) := by decide +kernel
theorem dX5_isQuiet_22 : decode cX5_isQuiet 22 = .ok (.ireturn, 1) := by decide +kernel
theorem dX5_quietCount_0 : decode cX5_quietCount 0 = .ok (.iconst 0, 1) := by decide +kernel
theorem dX5_quietCount_1 : decode cX5_quietCount 1 = .ok (.istore_n 1, 1) := by decide +kernel
theorem dX5_quietCount_2 : decode cX5_quietCount 2 = .ok (.iconst 0, 1) := by decide +kernel
theorem dX5_quietCount_3 : decode cX5_quietCount 3 = .ok (.istore_n 2, 1) := by decide +kernel
theorem dX5_quietCount_4 : decode cX5_quietCount 4 = .ok (.iload_n 2, 1) := by decide +kernel
theorem dX5_quietCount_5 : decode cX5_quietCount 5 = .ok (.aload_n 0, 1) := by decide +kernel
theorem dX5_quietCount_6 : decode cX5_quietCount 6 = .ok (.getfield 24, 3) := by decide +kernel
theorem dX5_quietCount_9 : decode cX5_quietCount 9 = .ok (.if_icmp .ge 21, 3) := by decide +kernel
theorem dX5_quietCount_12 : decode cX5_quietCount 12 = .ok (.aload_n 0, 1) := by decide +kernel
theorem dX5_quietCount_13 : decode cX5_quietCount 13 = .ok (.getfield 20, 3) := by decide +kernel
theorem dX5_quietCount_16 : decode cX5_quietCount 16 = .ok (.iload_n 2, 1) := by decide +kernel
theorem dX5_quietCount_17 : decode cX5_quietCount 17 = .ok (.baload, 1) := by decide +kernel
theorem dX5_quietCount_18 : decode cX5_quietCount 18 = .ok (.ifCond .eq 6, 3) := by decide +kernel
theorem dX5_quietCount_21 : decode cX5_quietCount 21 = .ok (.iinc 1 1, 3) := by decide +kernel
theorem dX5_quietCount_24 : decode cX5_quietCount 24 = .ok (.iinc 2 1, 3) := by decide +kernel
theorem dX5_quietCount_27 : decode cX5_quietCount 27 = .ok (.goto (-23), 3) := by decide +kernel
theorem dX5_quietCount_30 : decode cX5_quietCount 30 = .ok (.iload_n 1, 1) := by decide +kernel
theorem dX5_quietCount_31 : decode cX5_quietCount 31 = .ok (.ireturn, 1) := by decide +kernel
theorem dX5_hush_0 : decode cX5_hush 0 = .ok (.aload_n 0, 1) := by decide +kernel
theorem dX5_hush_1 : decode cX5_hush 1 = .ok (.iload_n 1, 1) := by decide +kernel
theorem dX5_hush_2 : decode cX5_hush 2 = .ok (.invokevirtual 28, 3) := by decide +kernel
theorem dX5_hush_5 : decode cX5_hush 5 = .ok (.ifCond .eq 10, 3) := by decide +kernel
theorem dX5_hush_8 : decode cX5_hush 8 = .ok (.aload_n 0, 1) := by decide +kernel
theorem dX5_hush_9 : decode cX5_hush 9 = .ok (.getfield 20, 3) := by decide +kernel
theorem dX5_hush_12 : decode cX5_hush 12 = .ok (.iload_n 1, 1) := by decide +kernel
theorem dX5_hush_13 : decode cX5_hush 13 = .ok (.iload_n 2, 1) := by decide +kernel
theorem dX5_hush_14 : decode cX5_hush 14 = .ok (.bastore, 1) := by decide +kernel
theorem dX5_hush_15 : decode cX5_hush 15 = .ok (.return_, 1) := by decide +kernel
theorem dX5_add_0 : decode cX5_add 0 = .ok (.aload_n 0, 1) := by decide +kernel
theorem dX5_add_1 : decode cX5_add 1 = .ok (.getfield 24, 3) := by decide +kernel
theorem dX5_add_4 : decode cX5_add 4 = .ok (.bipush 13, 2) := by decide +kernel
theorem dX5_add_6 : decode cX5_add 6 = .ok (.if_icmp .ge 19, 3) := by decide +kernel
theorem dX5_add_9 : decode cX5_add 9 = .ok (.iload_n 2, 1) := by decide +kernel
theorem dX5_add_10 : decode cX5_add 10 = .ok (.iconst 1, 1) := by decide +kernel
theorem dX5_add_11 : decode cX5_add 11 = .ok (.if_icmp .lt 14, 3) := by decide +kernel
theorem dX5_add_14 : decode cX5_add 14 = .ok (.iload_n 2, 1) := by decide +kernel
theorem dX5_add_15 : decode cX5_add 15 = .ok (.iconst 4, 1) := by decide +kernel
theorem dX5_add_16 : decode cX5_add 16 = .ok (.if_icmp .gt 9, 3) := by decide +kernel
theorem dX5_add_19 : decode cX5_add 19 = .ok (.iload_n 2, 1) := by decide +kernel
theorem dX5_add_20 : decode cX5_add 20 = .ok (.aload_n 1, 1) := by decide +kernel
theorem dX5_add_21 : decode cX5_add 21 = .ok (.arraylength, 1) := by decide +kernel
theorem dX5_add_22 : decode cX5_add 22 = .ok (.if_icmp .le 4, 3) := by decide +kernel
theorem dX5_add_25 : decode cX5_add 25 = .ok (.return_, 1) := by decide +kernel
theorem dX5_add_26 : decode cX5_add 26 = .ok (.aload_n 1, 1) := by decide +kernel
theorem dX5_add_27 : decode cX5_add 27 = .ok (.iconst 0, 1) := by decide +kernel
theorem dX5_add_28 : decode cX5_add 28 = .ok (.aload_n 0, 1) := by decide +kernel
theorem dX5_add_29 : decode cX5_add 29 = .ok (.getfield 13, 3) := by decide +kernel
theorem dX5_add_32 : decode cX5_add 32 = .ok (.aload_n 0, 1) := by decide +kernel
theorem dX5_add_33 : decode cX5_add 33 = .ok (.getfield 24, 3) := by decide +kernel
theorem dX5_add_36 : decode cX5_add 36 = .ok (.aaload, 1) := by decide +kernel
theorem dX5_add_37 : decode cX5_add 37 = .ok (.iconst 0, 1) := by decide +kernel
theorem dX5_add_38 : decode cX5_add 38 = .ok (.iload_n 2, 1) := by decide +kernel
theorem dX5_add_39 : decode cX5_add 39 = .ok (.invokestatic 32, 3) := by decide +kernel
theorem dX5_add_42 : decode cX5_add 42 = .ok (.aload_n 0, 1) := by decide +kernel
theorem dX5_add_43 : decode cX5_add 43 = .ok (.getfield 16, 3) := by decide +kernel
theorem dX5_add_46 : decode cX5_add 46 = .ok (.aload_n 0, 1) := by decide +kernel
theorem dX5_add_47 : decode cX5_add 47 = .ok (.getfield 24, 3) := by decide +kernel
theorem dX5_add_50 : decode cX5_add 50 = .ok (.iload_n 2, 1) := by decide +kernel
theorem dX5_add_51 : decode cX5_add 51 = .ok (.iastore, 1) := by decide +kernel
theorem dX5_add_52 : decode cX5_add 52 = .ok (.aload_n 0, 1) := by decide +kernel
theorem dX5_add_53 : decode cX5_add 53 = .ok (.getfield 20, 3) := by decide +kernel
theorem dX5_add_56 : decode cX5_add 56 = .ok (.aload_n 0, 1) := by decide +kernel
theorem dX5_add_57 : decode cX5_add 57 = .ok (.getfield 24, 3) := by decide +kernel
theorem dX5_add_60 : decode cX5_add 60 = .ok (.iconst 0, 1) := by decide +kernel
theorem dX5_add_61 : decode cX5_add 61 = .ok (.bastore, 1) := by decide +kernel
theorem dX5_add_62 : decode cX5_add 62 = .ok (.aload_n 0, 1) := by decide +kernel
theorem dX5_add_63 : decode cX5_add 63 = .ok (.dup, 1) := by decide +kernel
theorem dX5_add_64 : decode cX5_add 64 = .ok (.getfield 24, 3) := by decide +kernel
theorem dX5_add_67 : decode cX5_add 67 = .ok (.iconst 1, 1) := by decide +kernel
theorem dX5_add_68 : decode cX5_add 68 = .ok (.iadd, 1) := by decide +kernel
theorem dX5_add_69 : decode cX5_add 69 = .ok (.putfield 24, 3) := by decide +kernel
theorem dX5_add_72 : decode cX5_add 72 = .ok (.return_, 1) := by decide +kernel
theorem dX5_drop_0 : decode cX5_drop 0 = .ok (.aload_n 0, 1) := by decide +kernel
theorem dX5_drop_1 : decode cX5_drop 1 = .ok (.iload_n 1, 1) := by decide +kernel
theorem dX5_drop_2 : decode cX5_drop 2 = .ok (.invokevirtual 28, 3) := by decide +kernel
theorem dX5_drop_5 : decode cX5_drop 5 = .ok (.ifCond .ne 4, 3) := by decide +kernel
theorem dX5_drop_8 : decode cX5_drop 8 = .ok (.return_, 1) := by decide +kernel
theorem dX5_drop_9 : decode cX5_drop 9 = .ok (.aload_n 0, 1) := by decide +kernel
theorem dX5_drop_10 : decode cX5_drop 10 = .ok (.getfield 13, 3) := by decide +kernel
theorem dX5_drop_13 : decode cX5_drop 13 = .ok (.iload_n 1, 1) := by decide +kernel
theorem dX5_drop_14 : decode cX5_drop 14 = .ok (.aaload, 1) := by decide +kernel
theorem dX5_drop_15 : decode cX5_drop 15 = .ok (.astore_n 2, 1) := by decide +kernel
theorem dX5_drop_16 : decode cX5_drop 16 = .ok (.iload_n 1, 1) := by decide +kernel
theorem dX5_drop_17 : decode cX5_drop 17 = .ok (.iconst 1, 1) := by decide +kernel
theorem dX5_drop_18 : decode cX5_drop 18 = .ok (.iadd, 1) := by decide +kernel
theorem dX5_drop_19 : decode cX5_drop 19 = .ok (.istore_n 3, 1) := by decide +kernel
theorem dX5_drop_20 : decode cX5_drop 20 = .ok (.iload_n 3, 1) := by decide +kernel
theorem dX5_drop_21 : decode cX5_drop 21 = .ok (.aload_n 0, 1) := by decide +kernel
theorem dX5_drop_22 : decode cX5_drop 22 = .ok (.getfield 24, 3) := by decide +kernel
theorem dX5_drop_25 : decode cX5_drop 25 = .ok (.if_icmp .ge 51, 3) := by decide +kernel
theorem dX5_drop_28 : decode cX5_drop 28 = .ok (.aload_n 0, 1) := by decide +kernel
theorem dX5_drop_29 : decode cX5_drop 29 = .ok (.getfield 13, 3) := by decide +kernel
theorem dX5_drop_32 : decode cX5_drop 32 = .ok (.iload_n 3, 1) := by decide +kernel
theorem dX5_drop_33 : decode cX5_drop 33 = .ok (.iconst 1, 1) := by decide +kernel
theorem dX5_drop_34 : decode cX5_drop 34 = .ok (.isub, 1) := by decide +kernel
theorem dX5_drop_35 : decode cX5_drop 35 = .ok (.aload_n 0, 1) := by decide +kernel
theorem dX5_drop_36 : decode cX5_drop 36 = .ok (.getfield 13, 3) := by decide +kernel
theorem dX5_drop_39 : decode cX5_drop 39 = .ok (.iload_n 3, 1) := by decide +kernel
theorem dX5_drop_40 : decode cX5_drop 40 = .ok (.aaload, 1) := by decide +kernel
theorem dX5_drop_41 : decode cX5_drop 41 = .ok (.aastore, 1) := by decide +kernel
theorem dX5_drop_42 : decode cX5_drop 42 = .ok (.aload_n 0, 1) := by decide +kernel
theorem dX5_drop_43 : decode cX5_drop 43 = .ok (.getfield 16, 3) := by decide +kernel
theorem dX5_drop_46 : decode cX5_drop 46 = .ok (.iload_n 3, 1) := by decide +kernel
theorem dX5_drop_47 : decode cX5_drop 47 = .ok (.iconst 1, 1) := by decide +kernel
theorem dX5_drop_48 : decode cX5_drop 48 = .ok (.isub, 1) := by decide +kernel
theorem dX5_drop_49 : decode cX5_drop 49 = .ok (.aload_n 0, 1) := by decide +kernel
theorem dX5_drop_50 : decode cX5_drop 50 = .ok (.getfield 16, 3) := by decide +kernel
theorem dX5_drop_53 : decode cX5_drop 53 = .ok (.iload_n 3, 1) := by decide +kernel
theorem dX5_drop_54 : decode cX5_drop 54 = .ok (.iaload, 1) := by decide +kernel
theorem dX5_drop_55 : decode cX5_drop 55 = .ok (.iastore, 1) := by decide +kernel
theorem dX5_drop_56 : decode cX5_drop 56 = .ok (.aload_n 0, 1) := by decide +kernel
theorem dX5_drop_57 : decode cX5_drop 57 = .ok (.getfield 20, 3) := by decide +kernel
theorem dX5_drop_60 : decode cX5_drop 60 = .ok (.iload_n 3, 1) := by decide +kernel
theorem dX5_drop_61 : decode cX5_drop 61 = .ok (.iconst 1, 1) := by decide +kernel
theorem dX5_drop_62 : decode cX5_drop 62 = .ok (.isub, 1) := by decide +kernel
theorem dX5_drop_63 : decode cX5_drop 63 = .ok (.aload_n 0, 1) := by decide +kernel
theorem dX5_drop_64 : decode cX5_drop 64 = .ok (.getfield 20, 3) := by decide +kernel
theorem dX5_drop_67 : decode cX5_drop 67 = .ok (.iload_n 3, 1) := by decide +kernel
theorem dX5_drop_68 : decode cX5_drop 68 = .ok (.baload, 1) := by decide +kernel
theorem dX5_drop_69 : decode cX5_drop 69 = .ok (.bastore, 1) := by decide +kernel
theorem dX5_drop_70 : decode cX5_drop 70 = .ok (.iinc 3 1, 3) := by decide +kernel
theorem dX5_drop_73 : decode cX5_drop 73 = .ok (.goto (-53), 3) := by decide +kernel
theorem dX5_drop_76 : decode cX5_drop 76 = .ok (.aload_n 0, 1) := by decide +kernel
theorem dX5_drop_77 : decode cX5_drop 77 = .ok (.dup, 1) := by decide +kernel
theorem dX5_drop_78 : decode cX5_drop 78 = .ok (.getfield 24, 3) := by decide +kernel
theorem dX5_drop_81 : decode cX5_drop 81 = .ok (.iconst 1, 1) := by decide +kernel
theorem dX5_drop_82 : decode cX5_drop 82 = .ok (.isub, 1) := by decide +kernel
theorem dX5_drop_83 : decode cX5_drop 83 = .ok (.putfield 24, 3) := by decide +kernel
theorem dX5_drop_86 : decode cX5_drop 86 = .ok (.aload_n 0, 1) := by decide +kernel
theorem dX5_drop_87 : decode cX5_drop 87 = .ok (.getfield 13, 3) := by decide +kernel
theorem dX5_drop_90 : decode cX5_drop 90 = .ok (.aload_n 0, 1) := by decide +kernel
theorem dX5_drop_91 : decode cX5_drop 91 = .ok (.getfield 24, 3) := by decide +kernel
theorem dX5_drop_94 : decode cX5_drop 94 = .ok (.aload_n 2, 1) := by decide +kernel
theorem dX5_drop_95 : decode cX5_drop 95 = .ok (.aastore, 1) := by decide +kernel
theorem dX5_drop_96 : decode cX5_drop 96 = .ok (.return_, 1) := by decide +kernel
theorem dX5_hasLike_0 : decode cX5_hasLike 0 = .ok (.iconst 0, 1) := by decide +kernel
theorem dX5_hasLike_1 : decode cX5_hasLike 1 = .ok (.istore 4, 2) := by decide +kernel
theorem dX5_hasLike_3 : decode cX5_hasLike 3 = .ok (.iload 4, 2) := by decide +kernel
theorem dX5_hasLike_5 : decode cX5_hasLike 5 = .ok (.aload_n 0, 1) := by decide +kernel
theorem dX5_hasLike_6 : decode cX5_hasLike 6 = .ok (.getfield 24, 3) := by decide +kernel
theorem dX5_hasLike_9 : decode cX5_hasLike 9 = .ok (.if_icmp .ge 38, 3) := by decide +kernel
theorem dX5_hasLike_12 : decode cX5_hasLike 12 = .ok (.aload_n 0, 1) := by decide +kernel
theorem dX5_hasLike_13 : decode cX5_hasLike 13 = .ok (.getfield 16, 3) := by decide +kernel
theorem dX5_hasLike_16 : decode cX5_hasLike 16 = .ok (.iload 4, 2) := by decide +kernel
theorem dX5_hasLike_18 : decode cX5_hasLike 18 = .ok (.iaload, 1) := by decide +kernel
theorem dX5_hasLike_19 : decode cX5_hasLike 19 = .ok (.iload_n 3, 1) := by decide +kernel
theorem dX5_hasLike_20 : decode cX5_hasLike 20 = .ok (.if_icmp .ne 21, 3) := by decide +kernel
theorem dX5_hasLike_23 : decode cX5_hasLike 23 = .ok (.aload_n 1, 1) := by decide +kernel
theorem dX5_hasLike_24 : decode cX5_hasLike 24 = .ok (.aload_n 0, 1) := by decide +kernel
theorem dX5_hasLike_25 : decode cX5_hasLike 25 = .ok (.getfield 13, 3) := by decide +kernel
theorem dX5_hasLike_28 : decode cX5_hasLike 28 = .ok (.iload 4, 2) := by decide +kernel
theorem dX5_hasLike_30 : decode cX5_hasLike 30 = .ok (.aaload, 1) := by decide +kernel
theorem dX5_hasLike_31 : decode cX5_hasLike 31 = .ok (.aload_n 2, 1) := by decide +kernel
theorem dX5_hasLike_32 : decode cX5_hasLike 32 = .ok (.iload_n 3, 1) := by decide +kernel
theorem dX5_hasLike_33 : decode cX5_hasLike 33 = .ok (.invokestatic 38, 3) := by decide +kernel
theorem dX5_hasLike_36 : decode cX5_hasLike 36 = .ok (.ifCond .eq 5, 3) := by decide +kernel
theorem dX5_hasLike_39 : decode cX5_hasLike 39 = .ok (.iconst 1, 1) := by decide +kernel
theorem dX5_hasLike_40 : decode cX5_hasLike 40 = .ok (.ireturn, 1) := by decide +kernel
theorem dX5_hasLike_41 : decode cX5_hasLike 41 = .ok (.iinc 4 1, 3) := by decide +kernel
theorem dX5_hasLike_44 : decode cX5_hasLike 44 = .ok (.goto (-41), 3) := by decide +kernel
theorem dX5_hasLike_47 : decode cX5_hasLike 47 = .ok (.iconst 0, 1) := by decide +kernel
theorem dX5_hasLike_48 : decode cX5_hasLike 48 = .ok (.ireturn, 1) := by decide +kernel
theorem dX5_twoAreAlike_0 : decode cX5_twoAreAlike 0 = .ok (.iconst 0, 1) := by decide +kernel
theorem dX5_twoAreAlike_1 : decode cX5_twoAreAlike 1 = .ok (.istore_n 2, 1) := by decide +kernel
theorem dX5_twoAreAlike_2 : decode cX5_twoAreAlike 2 = .ok (.iload_n 2, 1) := by decide +kernel
theorem dX5_twoAreAlike_3 : decode cX5_twoAreAlike 3 = .ok (.aload_n 0, 1) := by decide +kernel
theorem dX5_twoAreAlike_4 : decode cX5_twoAreAlike 4 = .ok (.getfield 24, 3) := by decide +kernel
theorem dX5_twoAreAlike_7 : decode cX5_twoAreAlike 7 = .ok (.if_icmp .ge 69, 3) := by decide +kernel
theorem dX5_twoAreAlike_10 : decode cX5_twoAreAlike 10 = .ok (.iload_n 2, 1) := by decide +kernel
theorem dX5_twoAreAlike_11 : decode cX5_twoAreAlike 11 = .ok (.iconst 1, 1) := by decide +kernel
theorem dX5_twoAreAlike_12 : decode cX5_twoAreAlike 12 = .ok (.iadd, 1) := by decide +kernel
theorem dX5_twoAreAlike_13 : decode cX5_twoAreAlike 13 = .ok (.istore_n 3, 1) := by decide +kernel
theorem dX5_twoAreAlike_14 : decode cX5_twoAreAlike 14 = .ok (.iload_n 3, 1) := by decide +kernel
theorem dX5_twoAreAlike_15 : decode cX5_twoAreAlike 15 = .ok (.aload_n 0, 1) := by decide +kernel
theorem dX5_twoAreAlike_16 : decode cX5_twoAreAlike 16 = .ok (.getfield 24, 3) := by decide +kernel
theorem dX5_twoAreAlike_19 : decode cX5_twoAreAlike 19 = .ok (.if_icmp .ge 51, 3) := by decide +kernel
theorem dX5_twoAreAlike_22 : decode cX5_twoAreAlike 22 = .ok (.aload_n 0, 1) := by decide +kernel
theorem dX5_twoAreAlike_23 : decode cX5_twoAreAlike 23 = .ok (.getfield 16, 3) := by decide +kernel
theorem dX5_twoAreAlike_26 : decode cX5_twoAreAlike 26 = .ok (.iload_n 2, 1) := by decide +kernel
theorem dX5_twoAreAlike_27 : decode cX5_twoAreAlike 27 = .ok (.iaload, 1) := by decide +kernel
theorem dX5_twoAreAlike_28 : decode cX5_twoAreAlike 28 = .ok (.aload_n 0, 1) := by decide +kernel
theorem dX5_twoAreAlike_29 : decode cX5_twoAreAlike 29 = .ok (.getfield 16, 3) := by decide +kernel
theorem dX5_twoAreAlike_32 : decode cX5_twoAreAlike 32 = .ok (.iload_n 3, 1) := by decide +kernel
theorem dX5_twoAreAlike_33 : decode cX5_twoAreAlike 33 = .ok (.iaload, 1) := by decide +kernel
theorem dX5_twoAreAlike_34 : decode cX5_twoAreAlike 34 = .ok (.if_icmp .ne 30, 3) := by decide +kernel
theorem dX5_twoAreAlike_37 : decode cX5_twoAreAlike 37 = .ok (.aload_n 1, 1) := by decide +kernel
theorem dX5_twoAreAlike_38 : decode cX5_twoAreAlike 38 = .ok (.aload_n 0, 1) := by decide +kernel
theorem dX5_twoAreAlike_39 : decode cX5_twoAreAlike 39 = .ok (.getfield 13, 3) := by decide +kernel
theorem dX5_twoAreAlike_42 : decode cX5_twoAreAlike 42 = .ok (.iload_n 2, 1) := by decide +kernel
theorem dX5_twoAreAlike_43 : decode cX5_twoAreAlike 43 = .ok (.aaload, 1) := by decide +kernel
theorem dX5_twoAreAlike_44 : decode cX5_twoAreAlike 44 = .ok (.aload_n 0, 1) := by decide +kernel
theorem dX5_twoAreAlike_45 : decode cX5_twoAreAlike 45 = .ok (.getfield 13, 3) := by decide +kernel
theorem dX5_twoAreAlike_48 : decode cX5_twoAreAlike 48 = .ok (.iload_n 3, 1) := by decide +kernel
theorem dX5_twoAreAlike_49 : decode cX5_twoAreAlike 49 = .ok (.aaload, 1) := by decide +kernel
theorem dX5_twoAreAlike_50 : decode cX5_twoAreAlike 50 = .ok (.aload_n 0, 1) := by decide +kernel
theorem dX5_twoAreAlike_51 : decode cX5_twoAreAlike 51 = .ok (.getfield 16, 3) := by decide +kernel
theorem dX5_twoAreAlike_54 : decode cX5_twoAreAlike 54 = .ok (.iload_n 2, 1) := by decide +kernel
theorem dX5_twoAreAlike_55 : decode cX5_twoAreAlike 55 = .ok (.iaload, 1) := by decide +kernel
theorem dX5_twoAreAlike_56 : decode cX5_twoAreAlike 56 = .ok (.invokestatic 38, 3) := by decide +kernel
theorem dX5_twoAreAlike_59 : decode cX5_twoAreAlike 59 = .ok (.ifCond .eq 5, 3) := by decide +kernel
theorem dX5_twoAreAlike_62 : decode cX5_twoAreAlike 62 = .ok (.iconst 1, 1) := by decide +kernel
theorem dX5_twoAreAlike_63 : decode cX5_twoAreAlike 63 = .ok (.ireturn, 1) := by decide +kernel
theorem dX5_twoAreAlike_64 : decode cX5_twoAreAlike 64 = .ok (.iinc 3 1, 3) := by decide +kernel
theorem dX5_twoAreAlike_67 : decode cX5_twoAreAlike 67 = .ok (.goto (-53), 3) := by decide +kernel
theorem dX5_twoAreAlike_70 : decode cX5_twoAreAlike 70 = .ok (.iinc 2 1, 3) := by decide +kernel
theorem dX5_twoAreAlike_73 : decode cX5_twoAreAlike 73 = .ok (.goto (-71), 3) := by decide +kernel
theorem dX5_twoAreAlike_76 : decode cX5_twoAreAlike 76 = .ok (.iconst 0, 1) := by decide +kernel
theorem dX5_twoAreAlike_77 : decode cX5_twoAreAlike 77 = .ok (.ireturn, 1) := by decide +kernel
theorem dX5_sameBases_0 : decode cX5_sameBases 0 = .ok (.iconst 0, 1) := by decide +kernel
theorem dX5_sameBases_1 : decode cX5_sameBases 1 = .ok (.istore 4, 2) := by decide +kernel
theorem dX5_sameBases_3 : decode cX5_sameBases 3 = .ok (.iload 4, 2) := by decide +kernel
theorem dX5_sameBases_5 : decode cX5_sameBases 5 = .ok (.iload_n 3, 1) := by decide +kernel
theorem dX5_sameBases_6 : decode cX5_sameBases 6 = .ok (.if_icmp .ge 44, 3) := by decide +kernel
theorem dX5_sameBases_9 : decode cX5_sameBases 9 = .ok (.iload 4, 2) := by decide +kernel
theorem dX5_sameBases_11 : decode cX5_sameBases 11 = .ok (.aload_n 1, 1) := by decide +kernel
theorem dX5_sameBases_12 : decode cX5_sameBases 12 = .ok (.arraylength, 1) := by decide +kernel
theorem dX5_sameBases_13 : decode cX5_sameBases 13 = .ok (.if_icmp .ge 37, 3) := by decide +kernel
theorem dX5_sameBases_16 : decode cX5_sameBases 16 = .ok (.iload 4, 2) := by decide +kernel
theorem dX5_sameBases_18 : decode cX5_sameBases 18 = .ok (.aload_n 2, 1) := by decide +kernel
theorem dX5_sameBases_19 : decode cX5_sameBases 19 = .ok (.arraylength, 1) := by decide +kernel
theorem dX5_sameBases_20 : decode cX5_sameBases 20 = .ok (.if_icmp .ge 30, 3) := by decide +kernel
theorem dX5_sameBases_23 : decode cX5_sameBases 23 = .ok (.aload_n 0, 1) := by decide +kernel
theorem dX5_sameBases_24 : decode cX5_sameBases 24 = .ok (.aload_n 1, 1) := by decide +kernel
theorem dX5_sameBases_25 : decode cX5_sameBases 25 = .ok (.iload 4, 2) := by decide +kernel
theorem dX5_sameBases_27 : decode cX5_sameBases 27 = .ok (.iaload, 1) := by decide +kernel
theorem dX5_sameBases_28 : decode cX5_sameBases 28 = .ok (.invokevirtual 42, 3) := by decide +kernel
theorem dX5_sameBases_31 : decode cX5_sameBases 31 = .ok (.aload_n 0, 1) := by decide +kernel
theorem dX5_sameBases_32 : decode cX5_sameBases 32 = .ok (.aload_n 2, 1) := by decide +kernel
theorem dX5_sameBases_33 : decode cX5_sameBases 33 = .ok (.iload 4, 2) := by decide +kernel
theorem dX5_sameBases_35 : decode cX5_sameBases 35 = .ok (.iaload, 1) := by decide +kernel
theorem dX5_sameBases_36 : decode cX5_sameBases 36 = .ok (.invokevirtual 42, 3) := by decide +kernel
theorem dX5_sameBases_39 : decode cX5_sameBases 39 = .ok (.if_icmp .eq 5, 3) := by decide +kernel
theorem dX5_sameBases_42 : decode cX5_sameBases 42 = .ok (.iconst 0, 1) := by decide +kernel
theorem dX5_sameBases_43 : decode cX5_sameBases 43 = .ok (.ireturn, 1) := by decide +kernel
theorem dX5_sameBases_44 : decode cX5_sameBases 44 = .ok (.iinc 4 1, 3) := by decide +kernel
theorem dX5_sameBases_47 : decode cX5_sameBases 47 = .ok (.goto (-44), 3) := by decide +kernel
theorem dX5_sameBases_50 : decode cX5_sameBases 50 = .ok (.iconst 1, 1) := by decide +kernel
theorem dX5_sameBases_51 : decode cX5_sameBases 51 = .ok (.ireturn, 1) := by decide +kernel
theorem dX5_copyFrom_0 : decode cX5_copyFrom 0 = .ok (.iconst 0, 1) := by decide +kernel
theorem dX5_copyFrom_1 : decode cX5_copyFrom 1 = .ok (.istore_n 2, 1) := by decide +kernel
theorem dX5_copyFrom_2 : decode cX5_copyFrom 2 = .ok (.iload_n 2, 1) := by decide +kernel
theorem dX5_copyFrom_3 : decode cX5_copyFrom 3 = .ok (.bipush 13, 2) := by decide +kernel
theorem dX5_copyFrom_5 : decode cX5_copyFrom 5 = .ok (.if_icmp .ge 51, 3) := by decide +kernel
theorem dX5_copyFrom_8 : decode cX5_copyFrom 8 = .ok (.aload_n 1, 1) := by decide +kernel
theorem dX5_copyFrom_9 : decode cX5_copyFrom 9 = .ok (.getfield 13, 3) := by decide +kernel
theorem dX5_copyFrom_12 : decode cX5_copyFrom 12 = .ok (.iload_n 2, 1) := by decide +kernel
theorem dX5_copyFrom_13 : decode cX5_copyFrom 13 = .ok (.aaload, 1) := by decide +kernel
theorem dX5_copyFrom_14 : decode cX5_copyFrom 14 = .ok (.iconst 0, 1) := by decide +kernel
theorem dX5_copyFrom_15 : decode cX5_copyFrom 15 = .ok (.aload_n 0, 1) := by decide +kernel
theorem dX5_copyFrom_16 : decode cX5_copyFrom 16 = .ok (.getfield 13, 3) := by decide +kernel
theorem dX5_copyFrom_19 : decode cX5_copyFrom 19 = .ok (.iload_n 2, 1) := by decide +kernel
theorem dX5_copyFrom_20 : decode cX5_copyFrom 20 = .ok (.aaload, 1) := by decide +kernel
theorem dX5_copyFrom_21 : decode cX5_copyFrom 21 = .ok (.iconst 0, 1) := by decide +kernel
theorem dX5_copyFrom_22 : decode cX5_copyFrom 22 = .ok (.iconst 4, 1) := by decide +kernel
theorem dX5_copyFrom_23 : decode cX5_copyFrom 23 = .ok (.invokestatic 32, 3) := by decide +kernel
theorem dX5_copyFrom_26 : decode cX5_copyFrom 26 = .ok (.aload_n 0, 1) := by decide +kernel
theorem dX5_copyFrom_27 : decode cX5_copyFrom 27 = .ok (.getfield 16, 3) := by decide +kernel
theorem dX5_copyFrom_30 : decode cX5_copyFrom 30 = .ok (.iload_n 2, 1) := by decide +kernel
theorem dX5_copyFrom_31 : decode cX5_copyFrom 31 = .ok (.aload_n 1, 1) := by decide +kernel
theorem dX5_copyFrom_32 : decode cX5_copyFrom 32 = .ok (.getfield 16, 3) := by decide +kernel
theorem dX5_copyFrom_35 : decode cX5_copyFrom 35 = .ok (.iload_n 2, 1) := by decide +kernel
theorem dX5_copyFrom_36 : decode cX5_copyFrom 36 = .ok (.iaload, 1) := by decide +kernel
theorem dX5_copyFrom_37 : decode cX5_copyFrom 37 = .ok (.iastore, 1) := by decide +kernel
theorem dX5_copyFrom_38 : decode cX5_copyFrom 38 = .ok (.aload_n 0, 1) := by decide +kernel
theorem dX5_copyFrom_39 : decode cX5_copyFrom 39 = .ok (.getfield 20, 3) := by decide +kernel
theorem dX5_copyFrom_42 : decode cX5_copyFrom 42 = .ok (.iload_n 2, 1) := by decide +kernel
theorem dX5_copyFrom_43 : decode cX5_copyFrom 43 = .ok (.aload_n 1, 1) := by decide +kernel
theorem dX5_copyFrom_44 : decode cX5_copyFrom 44 = .ok (.getfield 20, 3) := by decide +kernel
theorem dX5_copyFrom_47 : decode cX5_copyFrom 47 = .ok (.iload_n 2, 1) := by decide +kernel
theorem dX5_copyFrom_48 : decode cX5_copyFrom 48 = .ok (.baload, 1) := by decide +kernel
theorem dX5_copyFrom_49 : decode cX5_copyFrom 49 = .ok (.bastore, 1) := by decide +kernel
theorem dX5_copyFrom_50 : decode cX5_copyFrom 50 = .ok (.iinc 2 1, 3) := by decide +kernel
theorem dX5_copyFrom_53 : decode cX5_copyFrom 53 = .ok (.goto (-51), 3) := by decide +kernel
theorem dX5_copyFrom_56 : decode cX5_copyFrom 56 = .ok (.aload_n 0, 1) := by decide +kernel
theorem dX5_copyFrom_57 : decode cX5_copyFrom 57 = .ok (.aload_n 1, 1) := by decide +kernel
theorem dX5_copyFrom_58 : decode cX5_copyFrom 58 = .ok (.getfield 24, 3) := by decide +kernel
theorem dX5_copyFrom_61 : decode cX5_copyFrom 61 = .ok (.putfield 24, 3) := by decide +kernel
theorem dX5_copyFrom_64 : decode cX5_copyFrom 64 = .ok (.return_, 1) := by decide +kernel
theorem dX6_init_0 : decode cX6_init 0 = .ok (.aload_n 0, 1) := by decide +kernel
theorem dX6_init_1 : decode cX6_init 1 = .ok (.invokespecial 1, 3) := by decide +kernel
theorem dX6_init_4 : decode cX6_init 4 = .ok (.aload_n 0, 1) := by decide +kernel
theorem dX6_init_5 : decode cX6_init 5 = .ok (.sipush 140, 3) := by decide +kernel
theorem dX6_init_8 : decode cX6_init 8 = .ok (.newarray .int, 2) := by decide +kernel
theorem dX6_init_10 : decode cX6_init 10 = .ok (.putfield 9, 3) := by decide +kernel
theorem dX6_init_13 : decode cX6_init 13 = .ok (.aload_n 0, 1) := by decide +kernel
theorem dX6_init_14 : decode cX6_init 14 = .ok (.iconst 0, 1) := by decide +kernel
theorem dX6_init_15 : decode cX6_init 15 = .ok (.putfield 13, 3) := by decide +kernel
theorem dX6_init_18 : decode cX6_init 18 = .ok (.return_, 1) := by decide +kernel
theorem dX6_length_0 : decode cX6_length 0 = .ok (.aload_n 0, 1) := by decide +kernel
theorem dX6_length_1 : decode cX6_length 1 = .ok (.getfield 13, 3) := by decide +kernel
theorem dX6_length_4 : decode cX6_length 4 = .ok (.ireturn, 1) := by decide +kernel
theorem dX6_at_0 : decode cX6_at 0 = .ok (.iload_n 1, 1) := by decide +kernel
theorem dX6_at_1 : decode cX6_at 1 = .ok (.ifCond .lt 20, 3) := by decide +kernel
theorem dX6_at_4 : decode cX6_at 4 = .ok (.iload_n 1, 1) := by decide +kernel
theorem dX6_at_5 : decode cX6_at 5 = .ok (.aload_n 0, 1) := by decide +kernel
theorem dX6_at_6 : decode cX6_at 6 = .ok (.getfield 13, 3) := by decide +kernel
theorem dX6_at_9 : decode cX6_at 9 = .ok (.if_icmp .ge 12, 3) := by decide +kernel
theorem dX6_at_12 : decode cX6_at 12 = .ok (.aload_n 0, 1) := by decide +kernel
theorem dX6_at_13 : decode cX6_at 13 = .ok (.getfield 9, 3) := by decide +kernel
theorem dX6_at_16 : decode cX6_at 16 = .ok (.iload_n 1, 1) := by decide +kernel
theorem dX6_at_17 : decode cX6_at 17 = .ok (.iaload, 1) := by decide +kernel
theorem dX6_at_18 : decode cX6_at 18 = .ok (.goto 4, 3) := by decide +kernel
theorem dX6_at_21 : decode cX6_at 21 = .ok (.iconst 0, 1) := by decide +kernel
theorem dX6_at_22 : decode cX6_at 22 = .ok (.ireturn, 1) := by decide +kernel
theorem dX6_add_0 : decode cX6_add 0 = .ok (.aload_n 0, 1) := by decide +kernel
theorem dX6_add_1 : decode cX6_add 1 = .ok (.getfield 13, 3) := by decide +kernel
theorem dX6_add_4 : decode cX6_add 4 = .ok (.sipush 140, 3) := by decide +kernel
theorem dX6_add_7 : decode cX6_add 7 = .ok (.if_icmp .ge 23, 3) := by decide +kernel
theorem dX6_add_10 : decode cX6_add 10 = .ok (.aload_n 0, 1) := by decide +kernel
theorem dX6_add_11 : decode cX6_add 11 = .ok (.getfield 9, 3) := by decide +kernel
theorem dX6_add_14 : decode cX6_add 14 = .ok (.aload_n 0, 1) := by decide +kernel
theorem dX6_add_15 : decode cX6_add 15 = .ok (.getfield 13, 3) := by decide +kernel
theorem dX6_add_18 : decode cX6_add 18 = .ok (.iload_n 1, 1) := by decide +kernel
theorem dX6_add_19 : decode cX6_add 19 = .ok (.iastore, 1) := by decide +kernel
theorem dX6_add_20 : decode cX6_add 20 = .ok (.aload_n 0, 1) := by decide +kernel
theorem dX6_add_21 : decode cX6_add 21 = .ok (.dup, 1) := by decide +kernel
theorem dX6_add_22 : decode cX6_add 22 = .ok (.getfield 13, 3) := by decide +kernel
theorem dX6_add_25 : decode cX6_add 25 = .ok (.iconst 1, 1) := by decide +kernel
theorem dX6_add_26 : decode cX6_add 26 = .ok (.iadd, 1) := by decide +kernel
theorem dX6_add_27 : decode cX6_add 27 = .ok (.putfield 13, 3) := by decide +kernel
theorem dX6_add_30 : decode cX6_add 30 = .ok (.return_, 1) := by decide +kernel
theorem dX6_empty_0 : decode cX6_empty 0 = .ok (.aload_n 0, 1) := by decide +kernel
theorem dX6_empty_1 : decode cX6_empty 1 = .ok (.iconst 0, 1) := by decide +kernel
theorem dX6_empty_2 : decode cX6_empty 2 = .ok (.putfield 13, 3) := by decide +kernel
theorem dX6_empty_5 : decode cX6_empty 5 = .ok (.return_, 1) := by decide +kernel
theorem dX7_init_0 : decode cX7_init 0 = .ok (.aload_n 0, 1) := by decide +kernel
theorem dX7_init_1 : decode cX7_init 1 = .ok (.invokespecial 3, 3) := by decide +kernel
theorem dX7_init_4 : decode cX7_init 4 = .ok (.aload_n 0, 1) := by decide +kernel
theorem dX7_init_5 : decode cX7_init 5 = .ok (.bipush 60, 2) := by decide +kernel
theorem dX7_init_7 : decode cX7_init 7 = .ok (.newarray .long, 2) := by decide +kernel
theorem dX7_init_9 : decode cX7_init 9 = .ok (.putfield 11, 3) := by decide +kernel
theorem dX7_init_12 : decode cX7_init 12 = .ok (.aload_n 0, 1) := by decide +kernel
theorem dX7_init_13 : decode cX7_init 13 = .ok (.bipush 60, 2) := by decide +kernel
theorem dX7_init_15 : decode cX7_init 15 = .ok (.newarray .int, 2) := by decide +kernel
theorem dX7_init_17 : decode cX7_init 17 = .ok (.putfield 15, 3) := by decide +kernel
theorem dX7_init_20 : decode cX7_init 20 = .ok (.aload_n 0, 1) := by decide +kernel
theorem dX7_init_21 : decode cX7_init 21 = .ok (.iconst 0, 1) := by decide +kernel
theorem dX7_init_22 : decode cX7_init 22 = .ok (.putfield 19, 3) := by decide +kernel
theorem dX7_init_25 : decode cX7_init 25 = .ok (.bipush 97, 2) := by decide +kernel
theorem dX7_init_27 : decode cX7_init 27 = .ok (.istore_n 1, 1) := by decide +kernel
theorem dX7_init_28 : decode cX7_init 28 = .ok (.iload_n 1, 1) := by decide +kernel
theorem dX7_init_29 : decode cX7_init 29 = .ok (.bipush 122, 2) := by decide +kernel
theorem dX7_init_31 : decode cX7_init 31 = .ok (.if_icmp .gt 16, 3) := by decide +kernel
theorem dX7_init_34 : decode cX7_init 34 = .ok (.aload_n 0, 1) := by decide +kernel
theorem dX7_init_35 : decode cX7_init 35 = .ok (.iload_n 1, 1) := by decide +kernel
theorem dX7_init_36 : decode cX7_init 36 = .ok (.i2l, 1) := by decide +kernel
theorem dX7_init_37 : decode cX7_init 37 = .ok (.invokevirtual 23, 3) := by decide +kernel
theorem dX7_init_40 : decode cX7_init 40 = .ok (.pop, 1) := by decide +kernel
theorem dX7_init_41 : decode cX7_init 41 = .ok (.iinc 1 1, 3) := by decide +kernel
theorem dX7_init_44 : decode cX7_init 44 = .ok (.goto (-16), 3) := by decide +kernel
theorem dX7_init_47 : decode cX7_init 47 = .ok (.return_, 1) := by decide +kernel
theorem dX7_spell_0 : decode cX7_spell 0 = .ok (.lload_n 0, 1) := by decide +kernel
theorem dX7_spell_1 : decode cX7_spell 1 = .ok (.iload_n 3, 1) := by decide +kernel
theorem dX7_spell_2 : decode cX7_spell 2 = .ok (.i2l, 1) := by decide +kernel
theorem dX7_spell_3 : decode cX7_spell 3 = .ok (.iload_n 2, 1) := by decide +kernel
theorem dX7_spell_4 : decode cX7_spell 4 = .ok (.bipush 8, 2) := by decide +kernel
theorem dX7_spell_6 : decode cX7_spell 6 = .ok (.imul, 1) := by decide +kernel
theorem dX7_spell_7 : decode cX7_spell 7 = .ok (.lshl, 1) := by decide +kernel
theorem dX7_spell_8 : decode cX7_spell 8 = .ok (.lor, 1) := by decide +kernel
theorem dX7_spell_9 : decode cX7_spell 9 = .ok (.lreturn, 1) := by decide +kernel
theorem dX7_size_0 : decode cX7_size 0 = .ok (.aload_n 0, 1) := by decide +kernel
theorem dX7_size_1 : decode cX7_size 1 = .ok (.getfield 19, 3) := by decide +kernel
theorem dX7_size_4 : decode cX7_size 4 = .ok (.ireturn, 1) := by decide +kernel
theorem dX7_has_0 : decode cX7_has 0 = .ok (.iload_n 1, 1) := by decide +kernel
theorem dX7_has_1 : decode cX7_has 1 = .ok (.ifCond .lt 15, 3) := by decide +kernel
theorem dX7_has_4 : decode cX7_has 4 = .ok (.iload_n 1, 1) := by decide +kernel
theorem dX7_has_5 : decode cX7_has 5 = .ok (.aload_n 0, 1) := by decide +kernel
theorem dX7_has_6 : decode cX7_has 6 = .ok (.getfield 19, 3) := by decide +kernel
theorem dX7_has_9 : decode cX7_has 9 = .ok (.if_icmp .ge 7, 3) := by decide +kernel
theorem dX7_has_12 : decode cX7_has 12 = .ok (.iconst 1, 1) := by decide +kernel
theorem dX7_has_13 : decode cX7_has 13 = .ok (.goto 4, 3) := by decide +kernel
theorem dX7_has_16 : decode cX7_has 16 = .ok (.iconst 0, 1) := by decide +kernel
theorem dX7_has_17 : decode cX7_has 17 = .ok (.ireturn, 1) := by decide +kernel
theorem dX7_add_0 : decode cX7_add 0 = .ok (.aload_n 0, 1) := by decide +kernel
theorem dX7_add_1 : decode cX7_add 1 = .ok (.getfield 19, 3) := by decide +kernel
theorem dX7_add_4 : decode cX7_add 4 = .ok (.bipush 60, 2) := by decide +kernel
theorem dX7_add_6 : decode cX7_add 6 = .ok (.if_icmp .lt 6, 3) := by decide +kernel
theorem dX7_add_9 : decode cX7_add 9 = .ok (.bipush (-99), 2) := by decide +kernel
theorem dX7_add_11 : decode cX7_add 11 = .ok (.ireturn, 1) := by decide +kernel
theorem dX7_add_12 : decode cX7_add 12 = .ok (.aload_n 0, 1) := by decide +kernel
theorem dX7_add_13 : decode cX7_add 13 = .ok (.getfield 11, 3) := by decide +kernel
theorem dX7_add_16 : decode cX7_add 16 = .ok (.aload_n 0, 1) := by decide +kernel
theorem dX7_add_17 : decode cX7_add 17 = .ok (.getfield 19, 3) := by decide +kernel
theorem dX7_add_20 : decode cX7_add 20 = .ok (.lload_n 1, 1) := by decide +kernel
theorem dX7_add_21 : decode cX7_add 21 = .ok (.lastore, 1) := by decide +kernel
theorem dX7_add_22 : decode cX7_add 22 = .ok (.aload_n 0, 1) := by decide +kernel
theorem dX7_add_23 : decode cX7_add 23 = .ok (.getfield 15, 3) := by decide +kernel
theorem dX7_add_26 : decode cX7_add 26 = .ok (.aload_n 0, 1) := by decide +kernel
theorem dX7_add_27 : decode cX7_add 27 = .ok (.getfield 19, 3) := by decide +kernel
theorem dX7_add_30 : decode cX7_add 30 = .ok (.aload_n 0, 1) := by decide +kernel
theorem dX7_add_31 : decode cX7_add 31 = .ok (.getfield 19, 3) := by decide +kernel
theorem dX7_add_34 : decode cX7_add 34 = .ok (.iastore, 1) := by decide +kernel
theorem dX7_add_35 : decode cX7_add 35 = .ok (.aload_n 0, 1) := by decide +kernel
theorem dX7_add_36 : decode cX7_add 36 = .ok (.dup, 1) := by decide +kernel
theorem dX7_add_37 : decode cX7_add 37 = .ok (.getfield 19, 3) := by decide +kernel
theorem dX7_add_40 : decode cX7_add 40 = .ok (.iconst 1, 1) := by decide +kernel
theorem dX7_add_41 : decode cX7_add 41 = .ok (.iadd, 1) := by decide +kernel
theorem dX7_add_42 : decode cX7_add 42 = .ok (.putfield 19, 3) := by decide +kernel
theorem dX7_add_45 : decode cX7_add 45 = .ok (.aload_n 0, 1) := by decide +kernel
theorem dX7_add_46 : decode cX7_add 46 = .ok (.getfield 19, 3) := by decide +kernel
theorem dX7_add_49 : decode cX7_add 49 = .ok (.iconst 1, 1) := by decide +kernel
theorem dX7_add_50 : decode cX7_add 50 = .ok (.isub, 1) := by decide +kernel
theorem dX7_add_51 : decode cX7_add 51 = .ok (.ireturn, 1) := by decide +kernel
theorem dX7_find_0 : decode cX7_find 0 = .ok (.iconst 0, 1) := by decide +kernel
theorem dX7_find_1 : decode cX7_find 1 = .ok (.istore_n 3, 1) := by decide +kernel
theorem dX7_find_2 : decode cX7_find 2 = .ok (.iload_n 3, 1) := by decide +kernel
theorem dX7_find_3 : decode cX7_find 3 = .ok (.aload_n 0, 1) := by decide +kernel
theorem dX7_find_4 : decode cX7_find 4 = .ok (.getfield 19, 3) := by decide +kernel
theorem dX7_find_7 : decode cX7_find 7 = .ok (.if_icmp .ge 22, 3) := by decide +kernel
theorem dX7_find_10 : decode cX7_find 10 = .ok (.aload_n 0, 1) := by decide +kernel
theorem dX7_find_11 : decode cX7_find 11 = .ok (.getfield 11, 3) := by decide +kernel
theorem dX7_find_14 : decode cX7_find 14 = .ok (.iload_n 3, 1) := by decide +kernel
theorem dX7_find_15 : decode cX7_find 15 = .ok (.laload, 1) := by decide +kernel
theorem dX7_find_16 : decode cX7_find 16 = .ok (.lload_n 1, 1) := by decide +kernel
theorem dX7_find_17 : decode cX7_find 17 = .ok (.lcmp, 1) := by decide +kernel
theorem dX7_find_18 : decode cX7_find 18 = .ok (.ifCond .ne 5, 3) := by decide +kernel
theorem dX7_find_21 : decode cX7_find 21 = .ok (.iload_n 3, 1) := by decide +kernel
theorem dX7_find_22 : decode cX7_find 22 = .ok (.ireturn, 1) := by decide +kernel
theorem dX7_find_23 : decode cX7_find 23 = .ok (.iinc 3 1, 3) := by decide +kernel
theorem dX7_find_26 : decode cX7_find 26 = .ok (.goto (-24), 3) := by decide +kernel
theorem dX7_find_29 : decode cX7_find 29 = .ok (.bipush (-99), 2) := by decide +kernel
theorem dX7_find_31 : decode cX7_find 31 = .ok (.ireturn, 1) := by decide +kernel
theorem dX7_letterAt_0 : decode cX7_letterAt 0 = .ok (.aload_n 0, 1) := by decide +kernel
theorem dX7_letterAt_1 : decode cX7_letterAt 1 = .ok (.iload_n 1, 1) := by decide +kernel
theorem dX7_letterAt_2 : decode cX7_letterAt 2 = .ok (.invokevirtual 27, 3) := by decide +kernel
theorem dX7_letterAt_5 : decode cX7_letterAt 5 = .ok (.ifCond .eq 13, 3) := by decide +kernel
theorem dX7_letterAt_8 : decode cX7_letterAt 8 = .ok (.iload_n 2, 1) := by decide +kernel
theorem dX7_letterAt_9 : decode cX7_letterAt 9 = .ok (.ifCond .lt 9, 3) := by decide +kernel
theorem dX7_letterAt_12 : decode cX7_letterAt 12 = .ok (.iload_n 2, 1) := by decide +kernel
theorem dX7_letterAt_13 : decode cX7_letterAt 13 = .ok (.bipush 8, 2) := by decide +kernel
theorem dX7_letterAt_15 : decode cX7_letterAt 15 = .ok (.if_icmp .lt 6, 3) := by decide +kernel
theorem dX7_letterAt_18 : decode cX7_letterAt 18 = .ok (.bipush (-99), 2) := by decide +kernel
theorem dX7_letterAt_20 : decode cX7_letterAt 20 = .ok (.ireturn, 1) := by decide +kernel
theorem dX7_letterAt_21 : decode cX7_letterAt 21 = .ok (.aload_n 0, 1) := by decide +kernel
theorem dX7_letterAt_22 : decode cX7_letterAt 22 = .ok (.getfield 11, 3) := by decide +kernel
theorem dX7_letterAt_25 : decode cX7_letterAt 25 = .ok (.iload_n 1, 1) := by decide +kernel
theorem dX7_letterAt_26 : decode cX7_letterAt 26 = .ok (.laload, 1) := by decide +kernel
theorem dX7_letterAt_27 : decode cX7_letterAt 27 = .ok (.iload_n 2, 1) := by decide +kernel
theorem dX7_letterAt_28 : decode cX7_letterAt 28 = .ok (.bipush 8, 2) := by decide +kernel
theorem dX7_letterAt_30 : decode cX7_letterAt 30 = .ok (.imul, 1) := by decide +kernel
theorem dX7_letterAt_31 : decode cX7_letterAt 31 = .ok (.lushr, 1) := by decide +kernel
theorem dX7_letterAt_32 : decode cX7_letterAt 32 = .ok (.l2i, 1) := by decide +kernel
theorem dX7_letterAt_33 : decode cX7_letterAt 33 = .ok (.sipush 255, 3) := by decide +kernel
theorem dX7_letterAt_36 : decode cX7_letterAt 36 = .ok (.iand, 1) := by decide +kernel
theorem dX7_letterAt_37 : decode cX7_letterAt 37 = .ok (.istore_n 3, 1) := by decide +kernel
theorem dX7_letterAt_38 : decode cX7_letterAt 38 = .ok (.iload_n 3, 1) := by decide +kernel
theorem dX7_letterAt_39 : decode cX7_letterAt 39 = .ok (.ifCond .ne 8, 3) := by decide +kernel
theorem dX7_letterAt_42 : decode cX7_letterAt 42 = .ok (.bipush (-99), 2) := by decide +kernel
theorem dX7_letterAt_44 : decode cX7_letterAt 44 = .ok (.goto 4, 3) := by decide +kernel
theorem dX7_letterAt_47 : decode cX7_letterAt 47 = .ok (.iload_n 3, 1) := by decide +kernel
theorem dX7_letterAt_48 : decode cX7_letterAt 48 = .ok (.ireturn, 1) := by decide +kernel
theorem dX7_baseOf_0 : decode cX7_baseOf 0 = .ok (.iload_n 1, 1) := by decide +kernel
theorem dX7_baseOf_1 : decode cX7_baseOf 1 = .ok (.ifCond .lt 20, 3) := by decide +kernel
theorem dX7_baseOf_4 : decode cX7_baseOf 4 = .ok (.iload_n 1, 1) := by decide +kernel
theorem dX7_baseOf_5 : decode cX7_baseOf 5 = .ok (.aload_n 0, 1) := by decide +kernel
theorem dX7_baseOf_6 : decode cX7_baseOf 6 = .ok (.getfield 19, 3) := by decide +kernel
theorem dX7_baseOf_9 : decode cX7_baseOf 9 = .ok (.if_icmp .ge 12, 3) := by decide +kernel
theorem dX7_baseOf_12 : decode cX7_baseOf 12 = .ok (.aload_n 0, 1) := by decide +kernel
theorem dX7_baseOf_13 : decode cX7_baseOf 13 = .ok (.getfield 15, 3) := by decide +kernel
theorem dX7_baseOf_16 : decode cX7_baseOf 16 = .ok (.iload_n 1, 1) := by decide +kernel
theorem dX7_baseOf_17 : decode cX7_baseOf 17 = .ok (.iaload, 1) := by decide +kernel
theorem dX7_baseOf_18 : decode cX7_baseOf 18 = .ok (.goto 5, 3) := by decide +kernel
theorem dX7_baseOf_21 : decode cX7_baseOf 21 = .ok (.bipush (-99), 2) := by decide +kernel
theorem dX7_baseOf_23 : decode cX7_baseOf 23 = .ok (.ireturn, 1) := by decide +kernel
theorem dX7_putBase_0 : decode cX7_putBase 0 = .ok (.aload_n 0, 1) := by decide +kernel
theorem dX7_putBase_1 : decode cX7_putBase 1 = .ok (.iload_n 1, 1) := by decide +kernel
theorem dX7_putBase_2 : decode cX7_putBase 2 = .ok (.invokevirtual 27, 3) := by decide +kernel
theorem dX7_putBase_5 : decode cX7_putBase 5 = .ok (.ifCond .eq 18, 3) := by decide +kernel
theorem dX7_putBase_8 : decode cX7_putBase 8 = .ok (.aload_n 0, 1) := by decide +kernel
theorem dX7_putBase_9 : decode cX7_putBase 9 = .ok (.iload_n 2, 1) := by decide +kernel
theorem dX7_putBase_10 : decode cX7_putBase 10 = .ok (.invokevirtual 27, 3) := by decide +kernel
theorem dX7_putBase_13 : decode cX7_putBase 13 = .ok (.ifCond .eq 10, 3) := by decide +kernel
theorem dX7_putBase_16 : decode cX7_putBase 16 = .ok (.aload_n 0, 1) := by decide +kernel
theorem dX7_putBase_17 : decode cX7_putBase 17 = .ok (.getfield 15, 3) := by decide +kernel
theorem dX7_putBase_20 : decode cX7_putBase 20 = .ok (.iload_n 1, 1) := by decide +kernel
theorem dX7_putBase_21 : decode cX7_putBase 21 = .ok (.iload_n 2, 1) := by decide +kernel
theorem dX7_putBase_22 : decode cX7_putBase 22 = .ok (.iastore, 1) := by decide +kernel
theorem dX7_putBase_23 : decode cX7_putBase 23 = .ok (.return_, 1) := by decide +kernel
theorem dX7_isForm_0 : decode cX7_isForm 0 = .ok (.aload_n 0, 1) := by decide +kernel
theorem dX7_isForm_1 : decode cX7_isForm 1 = .ok (.iload_n 1, 1) := by decide +kernel
theorem dX7_isForm_2 : decode cX7_isForm 2 = .ok (.invokevirtual 31, 3) := by decide +kernel
theorem dX7_isForm_5 : decode cX7_isForm 5 = .ok (.iload_n 1, 1) := by decide +kernel
theorem dX7_isForm_6 : decode cX7_isForm 6 = .ok (.if_icmp .eq 7, 3) := by decide +kernel
theorem dX7_isForm_9 : decode cX7_isForm 9 = .ok (.iconst 1, 1) := by decide +kernel
theorem dX7_isForm_10 : decode cX7_isForm 10 = .ok (.goto 4, 3) := by decide +kernel
theorem dX7_isForm_13 : decode cX7_isForm 13 = .ok (.iconst 0, 1) := by decide +kernel
theorem dX7_isForm_14 : decode cX7_isForm 14 = .ok (.ireturn, 1) := by decide +kernel
theorem dX7_hasForms_0 : decode cX7_hasForms 0 = .ok (.iconst 0, 1) := by decide +kernel
theorem dX7_hasForms_1 : decode cX7_hasForms 1 = .ok (.istore_n 2, 1) := by decide +kernel
theorem dX7_hasForms_2 : decode cX7_hasForms 2 = .ok (.iload_n 2, 1) := by decide +kernel
theorem dX7_hasForms_3 : decode cX7_hasForms 3 = .ok (.aload_n 0, 1) := by decide +kernel
theorem dX7_hasForms_4 : decode cX7_hasForms 4 = .ok (.getfield 19, 3) := by decide +kernel
theorem dX7_hasForms_7 : decode cX7_hasForms 7 = .ok (.if_icmp .ge 26, 3) := by decide +kernel
theorem dX7_hasForms_10 : decode cX7_hasForms 10 = .ok (.iload_n 2, 1) := by decide +kernel
theorem dX7_hasForms_11 : decode cX7_hasForms 11 = .ok (.iload_n 1, 1) := by decide +kernel
theorem dX7_hasForms_12 : decode cX7_hasForms 12 = .ok (.if_icmp .eq 15, 3) := by decide +kernel
theorem dX7_hasForms_15 : decode cX7_hasForms 15 = .ok (.aload_n 0, 1) := by decide +kernel
theorem dX7_hasForms_16 : decode cX7_hasForms 16 = .ok (.getfield 15, 3) := by decide +kernel
theorem dX7_hasForms_19 : decode cX7_hasForms 19 = .ok (.iload_n 2, 1) := by decide +kernel
theorem dX7_hasForms_20 : decode cX7_hasForms 20 = .ok (.iaload, 1) := by decide +kernel
theorem dX7_hasForms_21 : decode cX7_hasForms 21 = .ok (.iload_n 1, 1) := by decide +kernel
theorem dX7_hasForms_22 : decode cX7_hasForms 22 = .ok (.if_icmp .ne 5, 3) := by decide +kernel
theorem dX7_hasForms_25 : decode cX7_hasForms 25 = .ok (.iconst 1, 1) := by decide +kernel
theorem dX7_hasForms_26 : decode cX7_hasForms 26 = .ok (.ireturn, 1) := by decide +kernel
theorem dX7_hasForms_27 : decode cX7_hasForms 27 = .ok (.iinc 2 1, 3) := by decide +kernel
theorem dX7_hasForms_30 : decode cX7_hasForms 30 = .ok (.goto (-28), 3) := by decide +kernel
theorem dX7_hasForms_33 : decode cX7_hasForms 33 = .ok (.iconst 0, 1) := by decide +kernel
theorem dX7_hasForms_34 : decode cX7_hasForms 34 = .ok (.ireturn, 1) := by decide +kernel
theorem dX7_formCount_0 : decode cX7_formCount 0 = .ok (.iconst 0, 1) := by decide +kernel
theorem dX7_formCount_1 : decode cX7_formCount 1 = .ok (.istore_n 1, 1) := by decide +kernel
theorem dX7_formCount_2 : decode cX7_formCount 2 = .ok (.iconst 0, 1) := by decide +kernel
theorem dX7_formCount_3 : decode cX7_formCount 3 = .ok (.istore_n 2, 1) := by decide +kernel
theorem dX7_formCount_4 : decode cX7_formCount 4 = .ok (.iload_n 2, 1) := by decide +kernel
theorem dX7_formCount_5 : decode cX7_formCount 5 = .ok (.aload_n 0, 1) := by decide +kernel
theorem dX7_formCount_6 : decode cX7_formCount 6 = .ok (.getfield 19, 3) := by decide +kernel
theorem dX7_formCount_9 : decode cX7_formCount 9 = .ok (.if_icmp .ge 22, 3) := by decide +kernel
theorem dX7_formCount_12 : decode cX7_formCount 12 = .ok (.aload_n 0, 1) := by decide +kernel
theorem dX7_formCount_13 : decode cX7_formCount 13 = .ok (.getfield 15, 3) := by decide +kernel
theorem dX7_formCount_16 : decode cX7_formCount 16 = .ok (.iload_n 2, 1) := by decide +kernel
theorem dX7_formCount_17 : decode cX7_formCount 17 = .ok (.iaload, 1) := by decide +kernel
theorem dX7_formCount_18 : decode cX7_formCount 18 = .ok (.iload_n 2, 1) := by decide +kernel
theorem dX7_formCount_19 : decode cX7_formCount 19 = .ok (.if_icmp .eq 6, 3) := by decide +kernel
theorem dX7_formCount_22 : decode cX7_formCount 22 = .ok (.iinc 1 1, 3) := by decide +kernel
theorem dX7_formCount_25 : decode cX7_formCount 25 = .ok (.iinc 2 1, 3) := by decide +kernel
theorem dX7_formCount_28 : decode cX7_formCount 28 = .ok (.goto (-24), 3) := by decide +kernel
theorem dX7_formCount_31 : decode cX7_formCount 31 = .ok (.iload_n 1, 1) := by decide +kernel
theorem dX7_formCount_32 : decode cX7_formCount 32 = .ok (.ireturn, 1) := by decide +kernel
theorem dX7_copyFrom_0 : decode cX7_copyFrom 0 = .ok (.aload_n 1, 1) := by decide +kernel
theorem dX7_copyFrom_1 : decode cX7_copyFrom 1 = .ok (.getfield 11, 3) := by decide +kernel
theorem dX7_copyFrom_4 : decode cX7_copyFrom 4 = .ok (.iconst 0, 1) := by decide +kernel
theorem dX7_copyFrom_5 : decode cX7_copyFrom 5 = .ok (.aload_n 0, 1) := by decide +kernel
theorem dX7_copyFrom_6 : decode cX7_copyFrom 6 = .ok (.getfield 11, 3) := by decide +kernel
theorem dX7_copyFrom_9 : decode cX7_copyFrom 9 = .ok (.iconst 0, 1) := by decide +kernel
theorem dX7_copyFrom_10 : decode cX7_copyFrom 10 = .ok (.bipush 60, 2) := by decide +kernel
theorem dX7_copyFrom_12 : decode cX7_copyFrom 12 = .ok (.invokestatic 35, 3) := by decide +kernel
theorem dX7_copyFrom_15 : decode cX7_copyFrom 15 = .ok (.aload_n 1, 1) := by decide +kernel
theorem dX7_copyFrom_16 : decode cX7_copyFrom 16 = .ok (.getfield 15, 3) := by decide +kernel
theorem dX7_copyFrom_19 : decode cX7_copyFrom 19 = .ok (.iconst 0, 1) := by decide +kernel
theorem dX7_copyFrom_20 : decode cX7_copyFrom 20 = .ok (.aload_n 0, 1) := by decide +kernel
theorem dX7_copyFrom_21 : decode cX7_copyFrom 21 = .ok (.getfield 15, 3) := by decide +kernel
theorem dX7_copyFrom_24 : decode cX7_copyFrom 24 = .ok (.iconst 0, 1) := by decide +kernel
theorem dX7_copyFrom_25 : decode cX7_copyFrom 25 = .ok (.bipush 60, 2) := by decide +kernel
theorem dX7_copyFrom_27 : decode cX7_copyFrom 27 = .ok (.invokestatic 35, 3) := by decide +kernel
theorem dX7_copyFrom_30 : decode cX7_copyFrom 30 = .ok (.aload_n 0, 1) := by decide +kernel
theorem dX7_copyFrom_31 : decode cX7_copyFrom 31 = .ok (.aload_n 1, 1) := by decide +kernel
theorem dX7_copyFrom_32 : decode cX7_copyFrom 32 = .ok (.getfield 19, 3) := by decide +kernel
theorem dX7_copyFrom_35 : decode cX7_copyFrom 35 = .ok (.putfield 19, 3) := by decide +kernel
theorem dX7_copyFrom_38 : decode cX7_copyFrom 38 = .ok (.return_, 1) := by decide +kernel
theorem dX8_init_0 : decode cX8_init 0 = .ok (.aload_n 0, 1) := by decide +kernel
theorem dX8_init_1 : decode cX8_init 1 = .ok (.invokespecial 1, 3) := by decide +kernel
theorem dX8_init_4 : decode cX8_init 4 = .ok (.aload_n 0, 1) := by decide +kernel
theorem dX8_init_5 : decode cX8_init 5 = .ok (.new 7, 3) := by decide +kernel
theorem dX8_init_8 : decode cX8_init 8 = .ok (.dup, 1) := by decide +kernel
theorem dX8_init_9 : decode cX8_init 9 = .ok (.invokespecial 9, 3) := by decide +kernel
theorem dX8_init_12 : decode cX8_init 12 = .ok (.putfield 10, 3) := by decide +kernel
theorem dX8_init_15 : decode cX8_init 15 = .ok (.aload_n 0, 1) := by decide +kernel
theorem dX8_init_16 : decode cX8_init 16 = .ok (.new 7, 3) := by decide +kernel
theorem dX8_init_19 : decode cX8_init 19 = .ok (.dup, 1) := by decide +kernel
theorem dX8_init_20 : decode cX8_init 20 = .ok (.invokespecial 9, 3) := by decide +kernel
theorem dX8_init_23 : decode cX8_init 23 = .ok (.putfield 16, 3) := by decide +kernel
theorem dX8_init_26 : decode cX8_init 26 = .ok (.aload_n 0, 1) := by decide +kernel
theorem dX8_init_27 : decode cX8_init 27 = .ok (.new 19, 3) := by decide +kernel
theorem dX8_init_30 : decode cX8_init 30 = .ok (.dup, 1) := by decide +kernel
theorem dX8_init_31 : decode cX8_init 31 = .ok (.invokespecial 21, 3) := by decide +kernel
theorem dX8_init_34 : decode cX8_init 34 = .ok (.putfield 22, 3) := by decide +kernel
theorem dX8_init_37 : decode cX8_init 37 = .ok (.aload_n 0, 1) := by decide +kernel
theorem dX8_init_38 : decode cX8_init 38 = .ok (.new 26, 3) := by decide +kernel
theorem dX8_init_41 : decode cX8_init 41 = .ok (.dup, 1) := by decide +kernel
theorem dX8_init_42 : decode cX8_init 42 = .ok (.invokespecial 28, 3) := by decide +kernel
theorem dX8_init_45 : decode cX8_init 45 = .ok (.putfield 29, 3) := by decide +kernel
theorem dX8_init_48 : decode cX8_init 48 = .ok (.aload_n 0, 1) := by decide +kernel
theorem dX8_init_49 : decode cX8_init 49 = .ok (.new 33, 3) := by decide +kernel
theorem dX8_init_52 : decode cX8_init 52 = .ok (.dup, 1) := by decide +kernel
theorem dX8_init_53 : decode cX8_init 53 = .ok (.invokespecial 35, 3) := by decide +kernel
theorem dX8_init_56 : decode cX8_init 56 = .ok (.putfield 36, 3) := by decide +kernel
theorem dX8_init_59 : decode cX8_init 59 = .ok (.aload_n 0, 1) := by decide +kernel
theorem dX8_init_60 : decode cX8_init 60 = .ok (.iconst 4, 1) := by decide +kernel
theorem dX8_init_61 : decode cX8_init 61 = .ok (.newarray .int, 2) := by decide +kernel
theorem dX8_init_63 : decode cX8_init 63 = .ok (.putfield 42, 3) := by decide +kernel
theorem dX8_init_66 : decode cX8_init 66 = .ok (.return_, 1) := by decide +kernel
theorem dX8_insert_0 : decode cX8_insert 0 = .ok (.aload_n 0, 1) := by decide +kernel
theorem dX8_insert_1 : decode cX8_insert 1 = .ok (.getfield 10, 3) := by decide +kernel
theorem dX8_insert_4 : decode cX8_insert 4 = .ok (.getfield 46, 3) := by decide +kernel
theorem dX8_insert_7 : decode cX8_insert 7 = .ok (.astore 4, 2) := by decide +kernel
theorem dX8_insert_9 : decode cX8_insert 9 = .ok (.aload 4, 2) := by decide +kernel
theorem dX8_insert_11 : decode cX8_insert 11 = .ok (.iload_n 1, 1) := by decide +kernel
theorem dX8_insert_12 : decode cX8_insert 12 = .ok (.invokevirtual 50, 3) := by decide +kernel
theorem dX8_insert_15 : decode cX8_insert 15 = .ok (.ifCond .eq 31, 3) := by decide +kernel
theorem dX8_insert_18 : decode cX8_insert 18 = .ok (.iload_n 2, 1) := by decide +kernel
theorem dX8_insert_19 : decode cX8_insert 19 = .ok (.ifCond .lt 27, 3) := by decide +kernel
theorem dX8_insert_22 : decode cX8_insert 22 = .ok (.iload_n 2, 1) := by decide +kernel
theorem dX8_insert_23 : decode cX8_insert 23 = .ok (.aload 4, 2) := by decide +kernel
theorem dX8_insert_25 : decode cX8_insert 25 = .ok (.iload_n 1, 1) := by decide +kernel
theorem dX8_insert_26 : decode cX8_insert 26 = .ok (.invokevirtual 56, 3) := by decide +kernel
theorem dX8_insert_29 : decode cX8_insert 29 = .ok (.if_icmp .gt 17, 3) := by decide +kernel
theorem dX8_insert_32 : decode cX8_insert 32 = .ok (.aload_n 0, 1) := by decide +kernel
theorem dX8_insert_33 : decode cX8_insert 33 = .ok (.getfield 10, 3) := by decide +kernel
theorem dX8_insert_36 : decode cX8_insert 36 = .ok (.getfield 60, 3) := by decide +kernel
theorem dX8_insert_39 : decode cX8_insert 39 = .ok (.iload_n 3, 1) := by decide +kernel
theorem dX8_insert_40 : decode cX8_insert 40 = .ok (.invokevirtual 64, 3) := by decide +kernel
theorem dX8_insert_43 : decode cX8_insert 43 = .ok (.ifCond .ne 5, 3) := by decide +kernel
theorem dX8_insert_46 : decode cX8_insert 46 = .ok (.iconst (-1), 1) := by decide +kernel
theorem dX8_insert_47 : decode cX8_insert 47 = .ok (.ireturn, 1) := by decide +kernel
theorem dX8_insert_48 : decode cX8_insert 48 = .ok (.aload 4, 2) := by decide +kernel
theorem dX8_insert_50 : decode cX8_insert 50 = .ok (.iload_n 1, 1) := by decide +kernel
theorem dX8_insert_51 : decode cX8_insert 51 = .ok (.invokevirtual 56, 3) := by decide +kernel
theorem dX8_insert_54 : decode cX8_insert 54 = .ok (.bipush 40, 2) := by decide +kernel
theorem dX8_insert_56 : decode cX8_insert 56 = .ok (.if_icmp .lt 6, 3) := by decide +kernel
theorem dX8_insert_59 : decode cX8_insert 59 = .ok (.bipush (-3), 2) := by decide +kernel
theorem dX8_insert_61 : decode cX8_insert 61 = .ok (.ireturn, 1) := by decide +kernel
theorem dX8_insert_62 : decode cX8_insert 62 = .ok (.aload_n 0, 1) := by decide +kernel
theorem dX8_insert_63 : decode cX8_insert 63 = .ok (.getfield 22, 3) := by decide +kernel
theorem dX8_insert_66 : decode cX8_insert 66 = .ok (.aload_n 0, 1) := by decide +kernel
theorem dX8_insert_67 : decode cX8_insert 67 = .ok (.getfield 10, 3) := by decide +kernel
theorem dX8_insert_70 : decode cX8_insert 70 = .ok (.invokevirtual 67, 3) := by decide +kernel
theorem dX8_insert_73 : decode cX8_insert 73 = .ok (.aload 4, 2) := by decide +kernel
theorem dX8_insert_75 : decode cX8_insert 75 = .ok (.iload_n 1, 1) := by decide +kernel
theorem dX8_insert_76 : decode cX8_insert 76 = .ok (.iload_n 2, 1) := by decide +kernel
theorem dX8_insert_77 : decode cX8_insert 77 = .ok (.iload_n 3, 1) := by decide +kernel
theorem dX8_insert_78 : decode cX8_insert 78 = .ok (.invokevirtual 71, 3) := by decide +kernel
theorem dX8_insert_81 : decode cX8_insert 81 = .ok (.aload 4, 2) := by decide +kernel
theorem dX8_insert_83 : decode cX8_insert 83 = .ok (.iload_n 1, 1) := by decide +kernel
theorem dX8_insert_84 : decode cX8_insert 84 = .ok (.invokevirtual 56, 3) := by decide +kernel
theorem dX8_insert_87 : decode cX8_insert 87 = .ok (.ireturn, 1) := by decide +kernel
theorem dX8_delete_0 : decode cX8_delete 0 = .ok (.aload_n 0, 1) := by decide +kernel
theorem dX8_delete_1 : decode cX8_delete 1 = .ok (.getfield 10, 3) := by decide +kernel
theorem dX8_delete_4 : decode cX8_delete 4 = .ok (.getfield 46, 3) := by decide +kernel
theorem dX8_delete_7 : decode cX8_delete 7 = .ok (.astore 4, 2) := by decide +kernel
theorem dX8_delete_9 : decode cX8_delete 9 = .ok (.aload 4, 2) := by decide +kernel
theorem dX8_delete_11 : decode cX8_delete 11 = .ok (.iload_n 1, 1) := by decide +kernel
theorem dX8_delete_12 : decode cX8_delete 12 = .ok (.iload_n 2, 1) := by decide +kernel
theorem dX8_delete_13 : decode cX8_delete 13 = .ok (.invokevirtual 75, 3) := by decide +kernel
theorem dX8_delete_16 : decode cX8_delete 16 = .ok (.ifCond .eq 18, 3) := by decide +kernel
theorem dX8_delete_19 : decode cX8_delete 19 = .ok (.aload 4, 2) := by decide +kernel
theorem dX8_delete_21 : decode cX8_delete 21 = .ok (.iload_n 1, 1) := by decide +kernel
theorem dX8_delete_22 : decode cX8_delete 22 = .ok (.iload_n 3, 1) := by decide +kernel
theorem dX8_delete_23 : decode cX8_delete 23 = .ok (.invokevirtual 75, 3) := by decide +kernel
theorem dX8_delete_26 : decode cX8_delete 26 = .ok (.ifCond .eq 8, 3) := by decide +kernel
theorem dX8_delete_29 : decode cX8_delete 29 = .ok (.iload_n 3, 1) := by decide +kernel
theorem dX8_delete_30 : decode cX8_delete 30 = .ok (.iload_n 2, 1) := by decide +kernel
theorem dX8_delete_31 : decode cX8_delete 31 = .ok (.if_icmp .ge 5, 3) := by decide +kernel
theorem dX8_delete_34 : decode cX8_delete 34 = .ok (.iconst (-1), 1) := by decide +kernel
theorem dX8_delete_35 : decode cX8_delete 35 = .ok (.ireturn, 1) := by decide +kernel
theorem dX8_delete_36 : decode cX8_delete 36 = .ok (.aload_n 0, 1) := by decide +kernel
theorem dX8_delete_37 : decode cX8_delete 37 = .ok (.getfield 22, 3) := by decide +kernel
theorem dX8_delete_40 : decode cX8_delete 40 = .ok (.aload_n 0, 1) := by decide +kernel
theorem dX8_delete_41 : decode cX8_delete 41 = .ok (.getfield 10, 3) := by decide +kernel
theorem dX8_delete_44 : decode cX8_delete 44 = .ok (.invokevirtual 67, 3) := by decide +kernel
theorem dX8_delete_47 : decode cX8_delete 47 = .ok (.aload 4, 2) := by decide +kernel
theorem dX8_delete_49 : decode cX8_delete 49 = .ok (.iload_n 1, 1) := by decide +kernel
theorem dX8_delete_50 : decode cX8_delete 50 = .ok (.iload_n 2, 1) := by decide +kernel
theorem dX8_delete_51 : decode cX8_delete 51 = .ok (.iload_n 3, 1) := by decide +kernel
theorem dX8_delete_52 : decode cX8_delete 52 = .ok (.invokevirtual 79, 3) := by decide +kernel
theorem dX8_delete_55 : decode cX8_delete 55 = .ok (.aload 4, 2) := by decide +kernel
theorem dX8_delete_57 : decode cX8_delete 57 = .ok (.iload_n 1, 1) := by decide +kernel
theorem dX8_delete_58 : decode cX8_delete 58 = .ok (.invokevirtual 56, 3) := by decide +kernel
theorem dX8_delete_61 : decode cX8_delete 61 = .ok (.ireturn, 1) := by decide +kernel
theorem dX8_replace_0 : decode cX8_replace 0 = .ok (.aload_n 0, 1) := by decide +kernel
theorem dX8_replace_1 : decode cX8_replace 1 = .ok (.getfield 10, 3) := by decide +kernel
theorem dX8_replace_4 : decode cX8_replace 4 = .ok (.getfield 60, 3) := by decide +kernel
theorem dX8_replace_7 : decode cX8_replace 7 = .ok (.iload_n 1, 1) := by decide +kernel
theorem dX8_replace_8 : decode cX8_replace 8 = .ok (.invokevirtual 64, 3) := by decide +kernel
theorem dX8_replace_11 : decode cX8_replace 11 = .ok (.ifCond .eq 22, 3) := by decide +kernel
theorem dX8_replace_14 : decode cX8_replace 14 = .ok (.aload_n 0, 1) := by decide +kernel
theorem dX8_replace_15 : decode cX8_replace 15 = .ok (.getfield 10, 3) := by decide +kernel
theorem dX8_replace_18 : decode cX8_replace 18 = .ok (.getfield 60, 3) := by decide +kernel
theorem dX8_replace_21 : decode cX8_replace 21 = .ok (.iload_n 2, 1) := by decide +kernel
theorem dX8_replace_22 : decode cX8_replace 22 = .ok (.invokevirtual 64, 3) := by decide +kernel
theorem dX8_replace_25 : decode cX8_replace 25 = .ok (.ifCond .eq 8, 3) := by decide +kernel
theorem dX8_replace_28 : decode cX8_replace 28 = .ok (.iload_n 1, 1) := by decide +kernel
theorem dX8_replace_29 : decode cX8_replace 29 = .ok (.iload_n 2, 1) := by decide +kernel
theorem dX8_replace_30 : decode cX8_replace 30 = .ok (.if_icmp .ne 5, 3) := by decide +kernel
theorem dX8_replace_33 : decode cX8_replace 33 = .ok (.iconst (-1), 1) := by decide +kernel
theorem dX8_replace_34 : decode cX8_replace 34 = .ok (.ireturn, 1) := by decide +kernel
theorem dX8_replace_35 : decode cX8_replace 35 = .ok (.aload_n 0, 1) := by decide +kernel
theorem dX8_replace_36 : decode cX8_replace 36 = .ok (.getfield 22, 3) := by decide +kernel
theorem dX8_replace_39 : decode cX8_replace 39 = .ok (.aload_n 0, 1) := by decide +kernel
theorem dX8_replace_40 : decode cX8_replace 40 = .ok (.getfield 10, 3) := by decide +kernel
theorem dX8_replace_43 : decode cX8_replace 43 = .ok (.invokevirtual 67, 3) := by decide +kernel
theorem dX8_replace_46 : decode cX8_replace 46 = .ok (.aload_n 0, 1) := by decide +kernel
theorem dX8_replace_47 : decode cX8_replace 47 = .ok (.getfield 10, 3) := by decide +kernel
theorem dX8_replace_50 : decode cX8_replace 50 = .ok (.getfield 46, 3) := by decide +kernel
theorem dX8_replace_53 : decode cX8_replace 53 = .ok (.iload_n 1, 1) := by decide +kernel
theorem dX8_replace_54 : decode cX8_replace 54 = .ok (.iload_n 2, 1) := by decide +kernel
theorem dX8_replace_55 : decode cX8_replace 55 = .ok (.invokevirtual 82, 3) := by decide +kernel
theorem dX8_replace_58 : decode cX8_replace 58 = .ok (.ireturn, 1) := by decide +kernel
theorem dX8_swap_0 : decode cX8_swap 0 = .ok (.aload_n 0, 1) := by decide +kernel
theorem dX8_swap_1 : decode cX8_swap 1 = .ok (.getfield 10, 3) := by decide +kernel
theorem dX8_swap_4 : decode cX8_swap 4 = .ok (.getfield 46, 3) := by decide +kernel
theorem dX8_swap_7 : decode cX8_swap 7 = .ok (.iload_n 1, 1) := by decide +kernel
theorem dX8_swap_8 : decode cX8_swap 8 = .ok (.invokevirtual 50, 3) := by decide +kernel
theorem dX8_swap_11 : decode cX8_swap 11 = .ok (.ifCond .eq 17, 3) := by decide +kernel
theorem dX8_swap_14 : decode cX8_swap 14 = .ok (.aload_n 0, 1) := by decide +kernel
theorem dX8_swap_15 : decode cX8_swap 15 = .ok (.getfield 10, 3) := by decide +kernel
theorem dX8_swap_18 : decode cX8_swap 18 = .ok (.getfield 46, 3) := by decide +kernel
theorem dX8_swap_21 : decode cX8_swap 21 = .ok (.iload_n 2, 1) := by decide +kernel
theorem dX8_swap_22 : decode cX8_swap 22 = .ok (.invokevirtual 50, 3) := by decide +kernel
theorem dX8_swap_25 : decode cX8_swap 25 = .ok (.ifCond .ne 5, 3) := by decide +kernel
theorem dX8_swap_28 : decode cX8_swap 28 = .ok (.iconst (-1), 1) := by decide +kernel
theorem dX8_swap_29 : decode cX8_swap 29 = .ok (.ireturn, 1) := by decide +kernel
theorem dX8_swap_30 : decode cX8_swap 30 = .ok (.aload_n 0, 1) := by decide +kernel
theorem dX8_swap_31 : decode cX8_swap 31 = .ok (.getfield 22, 3) := by decide +kernel
theorem dX8_swap_34 : decode cX8_swap 34 = .ok (.aload_n 0, 1) := by decide +kernel
theorem dX8_swap_35 : decode cX8_swap 35 = .ok (.getfield 10, 3) := by decide +kernel
theorem dX8_swap_38 : decode cX8_swap 38 = .ok (.invokevirtual 67, 3) := by decide +kernel
theorem dX8_swap_41 : decode cX8_swap 41 = .ok (.aload_n 0, 1) := by decide +kernel
theorem dX8_swap_42 : decode cX8_swap 42 = .ok (.getfield 10, 3) := by decide +kernel
theorem dX8_swap_45 : decode cX8_swap 45 = .ok (.getfield 46, 3) := by decide +kernel
theorem dX8_swap_48 : decode cX8_swap 48 = .ok (.iload_n 1, 1) := by decide +kernel
theorem dX8_swap_49 : decode cX8_swap 49 = .ok (.iload_n 2, 1) := by decide +kernel
theorem dX8_swap_50 : decode cX8_swap 50 = .ok (.invokevirtual 86, 3) := by decide +kernel
theorem dX8_swap_53 : decode cX8_swap 53 = .ok (.aload_n 0, 1) := by decide +kernel
theorem dX8_swap_54 : decode cX8_swap 54 = .ok (.invokevirtual 90, 3) := by decide +kernel
theorem dX8_swap_57 : decode cX8_swap 57 = .ok (.invokevirtual 94, 3) := by decide +kernel
theorem dX8_swap_60 : decode cX8_swap 60 = .ok (.ireturn, 1) := by decide +kernel
theorem dX8_addTerm_0 : decode cX8_addTerm 0 = .ok (.aload_n 0, 1) := by decide +kernel
theorem dX8_addTerm_1 : decode cX8_addTerm 1 = .ok (.iload_n 1, 1) := by decide +kernel
theorem dX8_addTerm_2 : decode cX8_addTerm 2 = .ok (.iload_n 2, 1) := by decide +kernel
theorem dX8_addTerm_3 : decode cX8_addTerm 3 = .ok (.iload_n 3, 1) := by decide +kernel
theorem dX8_addTerm_4 : decode cX8_addTerm 4 = .ok (.iload 4, 2) := by decide +kernel
theorem dX8_addTerm_6 : decode cX8_addTerm 6 = .ok (.invokevirtual 98, 3) := by decide +kernel
theorem dX8_addTerm_9 : decode cX8_addTerm 9 = .ok (.istore 5, 2) := by decide +kernel
theorem dX8_addTerm_11 : decode cX8_addTerm 11 = .ok (.iload 5, 2) := by decide +kernel
theorem dX8_addTerm_13 : decode cX8_addTerm 13 = .ok (.ifCond .ge 6, 3) := by decide +kernel
theorem dX8_addTerm_16 : decode cX8_addTerm 16 = .ok (.iload 5, 2) := by decide +kernel
theorem dX8_addTerm_18 : decode cX8_addTerm 18 = .ok (.ireturn, 1) := by decide +kernel
theorem dX8_addTerm_19 : decode cX8_addTerm 19 = .ok (.aload_n 0, 1) := by decide +kernel
theorem dX8_addTerm_20 : decode cX8_addTerm 20 = .ok (.getfield 10, 3) := by decide +kernel
theorem dX8_addTerm_23 : decode cX8_addTerm 23 = .ok (.getfield 102, 3) := by decide +kernel
theorem dX8_addTerm_26 : decode cX8_addTerm 26 = .ok (.invokevirtual 106, 3) := by decide +kernel
theorem dX8_addTerm_29 : decode cX8_addTerm 29 = .ok (.bipush 12, 2) := by decide +kernel
theorem dX8_addTerm_31 : decode cX8_addTerm 31 = .ok (.if_icmp .lt 6, 3) := by decide +kernel
theorem dX8_addTerm_34 : decode cX8_addTerm 34 = .ok (.bipush (-3), 2) := by decide +kernel
theorem dX8_addTerm_36 : decode cX8_addTerm 36 = .ok (.ireturn, 1) := by decide +kernel
theorem dX8_addTerm_37 : decode cX8_addTerm 37 = .ok (.aload_n 0, 1) := by decide +kernel
theorem dX8_addTerm_38 : decode cX8_addTerm 38 = .ok (.getfield 22, 3) := by decide +kernel
theorem dX8_addTerm_41 : decode cX8_addTerm 41 = .ok (.aload_n 0, 1) := by decide +kernel
theorem dX8_addTerm_42 : decode cX8_addTerm 42 = .ok (.getfield 10, 3) := by decide +kernel
theorem dX8_addTerm_45 : decode cX8_addTerm 45 = .ok (.invokevirtual 67, 3) := by decide +kernel
theorem dX8_addTerm_48 : decode cX8_addTerm 48 = .ok (.aload_n 0, 1) := by decide +kernel
theorem dX8_addTerm_49 : decode cX8_addTerm 49 = .ok (.getfield 10, 3) := by decide +kernel
theorem dX8_addTerm_52 : decode cX8_addTerm 52 = .ok (.getfield 102, 3) := by decide +kernel
theorem dX8_addTerm_55 : decode cX8_addTerm 55 = .ok (.aload_n 0, 1) := by decide +kernel
theorem dX8_addTerm_56 : decode cX8_addTerm 56 = .ok (.getfield 42, 3) := by decide +kernel
theorem dX8_addTerm_59 : decode cX8_addTerm 59 = .ok (.iload 5, 2) := by decide +kernel
theorem dX8_addTerm_61 : decode cX8_addTerm 61 = .ok (.invokevirtual 109, 3) := by decide +kernel
theorem dX8_addTerm_64 : decode cX8_addTerm 64 = .ok (.aload_n 0, 1) := by decide +kernel
theorem dX8_addTerm_65 : decode cX8_addTerm 65 = .ok (.getfield 10, 3) := by decide +kernel
theorem dX8_addTerm_68 : decode cX8_addTerm 68 = .ok (.getfield 102, 3) := by decide +kernel
theorem dX8_addTerm_71 : decode cX8_addTerm 71 = .ok (.invokevirtual 106, 3) := by decide +kernel
theorem dX8_addTerm_74 : decode cX8_addTerm 74 = .ok (.iconst 1, 1) := by decide +kernel
theorem dX8_addTerm_75 : decode cX8_addTerm 75 = .ok (.isub, 1) := by decide +kernel
theorem dX8_addTerm_76 : decode cX8_addTerm 76 = .ok (.ireturn, 1) := by decide +kernel
theorem dX8_removeTerm_0 : decode cX8_removeTerm 0 = .ok (.aload_n 0, 1) := by decide +kernel
theorem dX8_removeTerm_1 : decode cX8_removeTerm 1 = .ok (.getfield 10, 3) := by decide +kernel
theorem dX8_removeTerm_4 : decode cX8_removeTerm 4 = .ok (.getfield 102, 3) := by decide +kernel
theorem dX8_removeTerm_7 : decode cX8_removeTerm 7 = .ok (.iload_n 1, 1) := by decide +kernel
theorem dX8_removeTerm_8 : decode cX8_removeTerm 8 = .ok (.invokevirtual 113, 3) := by decide +kernel
theorem dX8_removeTerm_11 : decode cX8_removeTerm 11 = .ok (.ifCond .ne 5, 3) := by decide +kernel
theorem dX8_removeTerm_14 : decode cX8_removeTerm 14 = .ok (.iconst (-1), 1) := by decide +kernel
theorem dX8_removeTerm_15 : decode cX8_removeTerm 15 = .ok (.ireturn, 1) := by decide +kernel
theorem dX8_removeTerm_16 : decode cX8_removeTerm 16 = .ok (.aload_n 0, 1) := by decide +kernel
theorem dX8_removeTerm_17 : decode cX8_removeTerm 17 = .ok (.getfield 22, 3) := by decide +kernel
theorem dX8_removeTerm_20 : decode cX8_removeTerm 20 = .ok (.aload_n 0, 1) := by decide +kernel
theorem dX8_removeTerm_21 : decode cX8_removeTerm 21 = .ok (.getfield 10, 3) := by decide +kernel
theorem dX8_removeTerm_24 : decode cX8_removeTerm 24 = .ok (.invokevirtual 67, 3) := by decide +kernel
theorem dX8_removeTerm_27 : decode cX8_removeTerm 27 = .ok (.aload_n 0, 1) := by decide +kernel
theorem dX8_removeTerm_28 : decode cX8_removeTerm 28 = .ok (.getfield 10, 3) := by decide +kernel
theorem dX8_removeTerm_31 : decode cX8_removeTerm 31 = .ok (.getfield 102, 3) := by decide +kernel
theorem dX8_removeTerm_34 : decode cX8_removeTerm 34 = .ok (.iload_n 1, 1) := by decide +kernel
theorem dX8_removeTerm_35 : decode cX8_removeTerm 35 = .ok (.invokevirtual 114, 3) := by decide +kernel
theorem dX8_removeTerm_38 : decode cX8_removeTerm 38 = .ok (.aload_n 0, 1) := by decide +kernel
theorem dX8_removeTerm_39 : decode cX8_removeTerm 39 = .ok (.getfield 10, 3) := by decide +kernel
theorem dX8_removeTerm_42 : decode cX8_removeTerm 42 = .ok (.getfield 102, 3) := by decide +kernel
theorem dX8_removeTerm_45 : decode cX8_removeTerm 45 = .ok (.invokevirtual 106, 3) := by decide +kernel
theorem dX8_removeTerm_48 : decode cX8_removeTerm 48 = .ok (.ireturn, 1) := by decide +kernel
theorem dX8_setQuiet_0 : decode cX8_setQuiet 0 = .ok (.aload_n 0, 1) := by decide +kernel
theorem dX8_setQuiet_1 : decode cX8_setQuiet 1 = .ok (.getfield 10, 3) := by decide +kernel
theorem dX8_setQuiet_4 : decode cX8_setQuiet 4 = .ok (.getfield 102, 3) := by decide +kernel
theorem dX8_setQuiet_7 : decode cX8_setQuiet 7 = .ok (.iload_n 1, 1) := by decide +kernel
theorem dX8_setQuiet_8 : decode cX8_setQuiet 8 = .ok (.invokevirtual 113, 3) := by decide +kernel
theorem dX8_setQuiet_11 : decode cX8_setQuiet 11 = .ok (.ifCond .eq 12, 3) := by decide +kernel
theorem dX8_setQuiet_14 : decode cX8_setQuiet 14 = .ok (.iload_n 2, 1) := by decide +kernel
theorem dX8_setQuiet_15 : decode cX8_setQuiet 15 = .ok (.ifCond .lt 8, 3) := by decide +kernel
theorem dX8_setQuiet_18 : decode cX8_setQuiet 18 = .ok (.iload_n 2, 1) := by decide +kernel
theorem dX8_setQuiet_19 : decode cX8_setQuiet 19 = .ok (.iconst 1, 1) := by decide +kernel
theorem dX8_setQuiet_20 : decode cX8_setQuiet 20 = .ok (.if_icmp .le 5, 3) := by decide +kernel
theorem dX8_setQuiet_23 : decode cX8_setQuiet 23 = .ok (.iconst (-1), 1) := by decide +kernel
theorem dX8_setQuiet_24 : decode cX8_setQuiet 24 = .ok (.ireturn, 1) := by decide +kernel
theorem dX8_setQuiet_25 : decode cX8_setQuiet 25 = .ok (.aload_n 0, 1) := by decide +kernel
theorem dX8_setQuiet_26 : decode cX8_setQuiet 26 = .ok (.getfield 22, 3) := by decide +kernel
theorem dX8_setQuiet_29 : decode cX8_setQuiet 29 = .ok (.aload_n 0, 1) := by decide +kernel
theorem dX8_setQuiet_30 : decode cX8_setQuiet 30 = .ok (.getfield 10, 3) := by decide +kernel
theorem dX8_setQuiet_33 : decode cX8_setQuiet 33 = .ok (.invokevirtual 67, 3) := by decide +kernel
theorem dX8_setQuiet_36 : decode cX8_setQuiet 36 = .ok (.aload_n 0, 1) := by decide +kernel
theorem dX8_setQuiet_37 : decode cX8_setQuiet 37 = .ok (.getfield 10, 3) := by decide +kernel
theorem dX8_setQuiet_40 : decode cX8_setQuiet 40 = .ok (.getfield 102, 3) := by decide +kernel
theorem dX8_setQuiet_43 : decode cX8_setQuiet 43 = .ok (.iload_n 1, 1) := by decide +kernel
theorem dX8_setQuiet_44 : decode cX8_setQuiet 44 = .ok (.iload_n 2, 1) := by decide +kernel
theorem dX8_setQuiet_45 : decode cX8_setQuiet 45 = .ok (.iconst 1, 1) := by decide +kernel
theorem dX8_setQuiet_46 : decode cX8_setQuiet 46 = .ok (.if_icmp .ne 7, 3) := by decide +kernel
theorem dX8_setQuiet_49 : decode cX8_setQuiet 49 = .ok (.iconst 1, 1) := by decide +kernel
theorem dX8_setQuiet_50 : decode cX8_setQuiet 50 = .ok (.goto 4, 3) := by decide +kernel
theorem dX8_setQuiet_53 : decode cX8_setQuiet 53 = .ok (.iconst 0, 1) := by decide +kernel
theorem dX8_setQuiet_54 : decode cX8_setQuiet 54 = .ok (.invokevirtual 118, 3) := by decide +kernel
theorem dX8_setQuiet_57 : decode cX8_setQuiet 57 = .ok (.aload_n 0, 1) := by decide +kernel
theorem dX8_setQuiet_58 : decode cX8_setQuiet 58 = .ok (.invokevirtual 90, 3) := by decide +kernel
theorem dX8_setQuiet_61 : decode cX8_setQuiet 61 = .ok (.invokevirtual 94, 3) := by decide +kernel
theorem dX8_setQuiet_64 : decode cX8_setQuiet 64 = .ok (.ireturn, 1) := by decide +kernel
theorem dX8_setBase_0 : decode cX8_setBase 0 = .ok (.aload_n 0, 1) := by decide +kernel
theorem dX8_setBase_1 : decode cX8_setBase 1 = .ok (.getfield 10, 3) := by decide +kernel
theorem dX8_setBase_4 : decode cX8_setBase 4 = .ok (.getfield 60, 3) := by decide +kernel
theorem dX8_setBase_7 : decode cX8_setBase 7 = .ok (.iload_n 1, 1) := by decide +kernel
theorem dX8_setBase_8 : decode cX8_setBase 8 = .ok (.invokevirtual 64, 3) := by decide +kernel
theorem dX8_setBase_11 : decode cX8_setBase 11 = .ok (.ifCond .eq 17, 3) := by decide +kernel
theorem dX8_setBase_14 : decode cX8_setBase 14 = .ok (.aload_n 0, 1) := by decide +kernel
theorem dX8_setBase_15 : decode cX8_setBase 15 = .ok (.getfield 10, 3) := by decide +kernel
theorem dX8_setBase_18 : decode cX8_setBase 18 = .ok (.getfield 60, 3) := by decide +kernel
theorem dX8_setBase_21 : decode cX8_setBase 21 = .ok (.iload_n 2, 1) := by decide +kernel
theorem dX8_setBase_22 : decode cX8_setBase 22 = .ok (.invokevirtual 64, 3) := by decide +kernel
theorem dX8_setBase_25 : decode cX8_setBase 25 = .ok (.ifCond .ne 5, 3) := by decide +kernel
theorem dX8_setBase_28 : decode cX8_setBase 28 = .ok (.iconst (-1), 1) := by decide +kernel
theorem dX8_setBase_29 : decode cX8_setBase 29 = .ok (.ireturn, 1) := by decide +kernel
theorem dX8_setBase_30 : decode cX8_setBase 30 = .ok (.aload_n 0, 1) := by decide +kernel
theorem dX8_setBase_31 : decode cX8_setBase 31 = .ok (.getfield 10, 3) := by decide +kernel
theorem dX8_setBase_34 : decode cX8_setBase 34 = .ok (.iload_n 1, 1) := by decide +kernel
theorem dX8_setBase_35 : decode cX8_setBase 35 = .ok (.iload_n 2, 1) := by decide +kernel
theorem dX8_setBase_36 : decode cX8_setBase 36 = .ok (.invokevirtual 122, 3) := by decide +kernel
theorem dX8_setBase_39 : decode cX8_setBase 39 = .ok (.ifCond .ne 6, 3) := by decide +kernel
theorem dX8_setBase_42 : decode cX8_setBase 42 = .ok (.bipush (-2), 2) := by decide +kernel
theorem dX8_setBase_44 : decode cX8_setBase 44 = .ok (.ireturn, 1) := by decide +kernel
theorem dX8_setBase_45 : decode cX8_setBase 45 = .ok (.aload_n 0, 1) := by decide +kernel
theorem dX8_setBase_46 : decode cX8_setBase 46 = .ok (.getfield 22, 3) := by decide +kernel
theorem dX8_setBase_49 : decode cX8_setBase 49 = .ok (.aload_n 0, 1) := by decide +kernel
theorem dX8_setBase_50 : decode cX8_setBase 50 = .ok (.getfield 10, 3) := by decide +kernel
theorem dX8_setBase_53 : decode cX8_setBase 53 = .ok (.invokevirtual 67, 3) := by decide +kernel
theorem dX8_setBase_56 : decode cX8_setBase 56 = .ok (.aload_n 0, 1) := by decide +kernel
theorem dX8_setBase_57 : decode cX8_setBase 57 = .ok (.getfield 10, 3) := by decide +kernel
theorem dX8_setBase_60 : decode cX8_setBase 60 = .ok (.getfield 60, 3) := by decide +kernel
theorem dX8_setBase_63 : decode cX8_setBase 63 = .ok (.iload_n 1, 1) := by decide +kernel
theorem dX8_setBase_64 : decode cX8_setBase 64 = .ok (.invokevirtual 125, 3) := by decide +kernel
theorem dX8_setBase_67 : decode cX8_setBase 67 = .ok (.istore_n 3, 1) := by decide +kernel
theorem dX8_setBase_68 : decode cX8_setBase 68 = .ok (.aload_n 0, 1) := by decide +kernel
theorem dX8_setBase_69 : decode cX8_setBase 69 = .ok (.getfield 10, 3) := by decide +kernel
theorem dX8_setBase_72 : decode cX8_setBase 72 = .ok (.getfield 60, 3) := by decide +kernel
theorem dX8_setBase_75 : decode cX8_setBase 75 = .ok (.iload_n 1, 1) := by decide +kernel
theorem dX8_setBase_76 : decode cX8_setBase 76 = .ok (.iload_n 2, 1) := by decide +kernel
theorem dX8_setBase_77 : decode cX8_setBase 77 = .ok (.invokevirtual 128, 3) := by decide +kernel
theorem dX8_setBase_80 : decode cX8_setBase 80 = .ok (.iload_n 3, 1) := by decide +kernel
theorem dX8_setBase_81 : decode cX8_setBase 81 = .ok (.ireturn, 1) := by decide +kernel
theorem dX8_take_0 : decode cX8_take 0 = .ok (.aload_n 0, 1) := by decide +kernel
theorem dX8_take_1 : decode cX8_take 1 = .ok (.getfield 10, 3) := by decide +kernel
theorem dX8_take_4 : decode cX8_take 4 = .ok (.iload_n 1, 1) := by decide +kernel
theorem dX8_take_5 : decode cX8_take 5 = .ok (.invokevirtual 131, 3) := by decide +kernel
theorem dX8_take_8 : decode cX8_take 8 = .ok (.ifCond .ne 5, 3) := by decide +kernel
theorem dX8_take_11 : decode cX8_take 11 = .ok (.iconst (-1), 1) := by decide +kernel
theorem dX8_take_12 : decode cX8_take 12 = .ok (.ireturn, 1) := by decide +kernel
theorem dX8_take_13 : decode cX8_take 13 = .ok (.aload_n 0, 1) := by decide +kernel
theorem dX8_take_14 : decode cX8_take 14 = .ok (.getfield 22, 3) := by decide +kernel
theorem dX8_take_17 : decode cX8_take 17 = .ok (.aload_n 0, 1) := by decide +kernel
theorem dX8_take_18 : decode cX8_take 18 = .ok (.getfield 10, 3) := by decide +kernel
theorem dX8_take_21 : decode cX8_take 21 = .ok (.invokevirtual 67, 3) := by decide +kernel
theorem dX8_take_24 : decode cX8_take 24 = .ok (.aload_n 0, 1) := by decide +kernel
theorem dX8_take_25 : decode cX8_take 25 = .ok (.getfield 10, 3) := by decide +kernel
theorem dX8_take_28 : decode cX8_take 28 = .ok (.iload_n 1, 1) := by decide +kernel
theorem dX8_take_29 : decode cX8_take 29 = .ok (.invokevirtual 134, 3) := by decide +kernel
theorem dX8_take_32 : decode cX8_take 32 = .ok (.aload_n 0, 1) := by decide +kernel
theorem dX8_take_33 : decode cX8_take 33 = .ok (.getfield 10, 3) := by decide +kernel
theorem dX8_take_36 : decode cX8_take 36 = .ok (.getfield 46, 3) := by decide +kernel
theorem dX8_take_39 : decode cX8_take 39 = .ok (.invokevirtual 137, 3) := by decide +kernel
theorem dX8_take_42 : decode cX8_take 42 = .ok (.ireturn, 1) := by decide +kernel
theorem dX8_restore_0 : decode cX8_restore 0 = .ok (.aload_n 0, 1) := by decide +kernel
theorem dX8_restore_1 : decode cX8_restore 1 = .ok (.getfield 10, 3) := by decide +kernel
theorem dX8_restore_4 : decode cX8_restore 4 = .ok (.iload_n 1, 1) := by decide +kernel
theorem dX8_restore_5 : decode cX8_restore 5 = .ok (.invokevirtual 131, 3) := by decide +kernel
theorem dX8_restore_8 : decode cX8_restore 8 = .ok (.ifCond .ne 5, 3) := by decide +kernel
theorem dX8_restore_11 : decode cX8_restore 11 = .ok (.iconst (-1), 1) := by decide +kernel
theorem dX8_restore_12 : decode cX8_restore 12 = .ok (.ireturn, 1) := by decide +kernel
theorem dX8_restore_13 : decode cX8_restore 13 = .ok (.aload_n 0, 1) := by decide +kernel
theorem dX8_restore_14 : decode cX8_restore 14 = .ok (.getfield 10, 3) := by decide +kernel
theorem dX8_restore_17 : decode cX8_restore 17 = .ok (.iload_n 1, 1) := by decide +kernel
theorem dX8_restore_18 : decode cX8_restore 18 = .ok (.invokevirtual 140, 3) := by decide +kernel
theorem dX8_restore_21 : decode cX8_restore 21 = .ok (.ifCond .ne 6, 3) := by decide +kernel
theorem dX8_restore_24 : decode cX8_restore 24 = .ok (.bipush (-2), 2) := by decide +kernel
theorem dX8_restore_26 : decode cX8_restore 26 = .ok (.ireturn, 1) := by decide +kernel
theorem dX8_restore_27 : decode cX8_restore 27 = .ok (.aload_n 0, 1) := by decide +kernel
theorem dX8_restore_28 : decode cX8_restore 28 = .ok (.getfield 22, 3) := by decide +kernel
theorem dX8_restore_31 : decode cX8_restore 31 = .ok (.aload_n 0, 1) := by decide +kernel
theorem dX8_restore_32 : decode cX8_restore 32 = .ok (.getfield 10, 3) := by decide +kernel
theorem dX8_restore_35 : decode cX8_restore 35 = .ok (.invokevirtual 67, 3) := by decide +kernel
theorem dX8_restore_38 : decode cX8_restore 38 = .ok (.aload_n 0, 1) := by decide +kernel
theorem dX8_restore_39 : decode cX8_restore 39 = .ok (.getfield 10, 3) := by decide +kernel
theorem dX8_restore_42 : decode cX8_restore 42 = .ok (.iload_n 1, 1) := by decide +kernel
theorem dX8_restore_43 : decode cX8_restore 43 = .ok (.invokevirtual 143, 3) := by decide +kernel
theorem dX8_restore_46 : decode cX8_restore 46 = .ok (.aload_n 0, 1) := by decide +kernel
theorem dX8_restore_47 : decode cX8_restore 47 = .ok (.getfield 10, 3) := by decide +kernel
theorem dX8_restore_50 : decode cX8_restore 50 = .ok (.getfield 46, 3) := by decide +kernel
theorem dX8_restore_53 : decode cX8_restore 53 = .ok (.invokevirtual 137, 3) := by decide +kernel
theorem dX8_restore_56 : decode cX8_restore 56 = .ok (.ireturn, 1) := by decide +kernel
theorem dX8_undo_0 : decode cX8_undo 0 = .ok (.aload_n 0, 1) := by decide +kernel
theorem dX8_undo_1 : decode cX8_undo 1 = .ok (.getfield 22, 3) := by decide +kernel
theorem dX8_undo_4 : decode cX8_undo 4 = .ok (.invokevirtual 146, 3) := by decide +kernel
theorem dX8_undo_7 : decode cX8_undo 7 = .ok (.ifCond .ne 6, 3) := by decide +kernel
theorem dX8_undo_10 : decode cX8_undo 10 = .ok (.bipush (-2), 2) := by decide +kernel
theorem dX8_undo_12 : decode cX8_undo 12 = .ok (.ireturn, 1) := by decide +kernel
theorem dX8_undo_13 : decode cX8_undo 13 = .ok (.aload_n 0, 1) := by decide +kernel
theorem dX8_undo_14 : decode cX8_undo 14 = .ok (.getfield 22, 3) := by decide +kernel
theorem dX8_undo_17 : decode cX8_undo 17 = .ok (.aload_n 0, 1) := by decide +kernel
theorem dX8_undo_18 : decode cX8_undo 18 = .ok (.getfield 10, 3) := by decide +kernel
theorem dX8_undo_21 : decode cX8_undo 21 = .ok (.invokevirtual 147, 3) := by decide +kernel
theorem dX8_undo_24 : decode cX8_undo 24 = .ok (.aload_n 0, 1) := by decide +kernel
theorem dX8_undo_25 : decode cX8_undo 25 = .ok (.getfield 22, 3) := by decide +kernel
theorem dX8_undo_28 : decode cX8_undo 28 = .ok (.invokevirtual 146, 3) := by decide +kernel
theorem dX8_undo_31 : decode cX8_undo 31 = .ok (.ireturn, 1) := by decide +kernel
theorem dX8_append_0 : decode cX8_append 0 = .ok (.iload_n 1, 1) := by decide +kernel
theorem dX8_append_1 : decode cX8_append 1 = .ok (.iconst 1, 1) := by decide +kernel
theorem dX8_append_2 : decode cX8_append 2 = .ok (.if_icmp .lt 10, 3) := by decide +kernel
theorem dX8_append_5 : decode cX8_append 5 = .ok (.iload_n 1, 1) := by decide +kernel
theorem dX8_append_6 : decode cX8_append 6 = .ok (.sipush 255, 3) := by decide +kernel
theorem dX8_append_9 : decode cX8_append 9 = .ok (.if_icmp .le 5, 3) := by decide +kernel
theorem dX8_append_12 : decode cX8_append 12 = .ok (.iconst (-1), 1) := by decide +kernel
theorem dX8_append_13 : decode cX8_append 13 = .ok (.ireturn, 1) := by decide +kernel
theorem dX8_append_14 : decode cX8_append 14 = .ok (.aload_n 0, 1) := by decide +kernel
theorem dX8_append_15 : decode cX8_append 15 = .ok (.getfield 29, 3) := by decide +kernel
theorem dX8_append_18 : decode cX8_append 18 = .ok (.getfield 150, 3) := by decide +kernel
theorem dX8_append_21 : decode cX8_append 21 = .ok (.invokevirtual 154, 3) := by decide +kernel
theorem dX8_append_24 : decode cX8_append 24 = .ok (.sipush 140, 3) := by decide +kernel
theorem dX8_append_27 : decode cX8_append 27 = .ok (.if_icmp .lt 6, 3) := by decide +kernel
theorem dX8_append_30 : decode cX8_append 30 = .ok (.bipush (-3), 2) := by decide +kernel
theorem dX8_append_32 : decode cX8_append 32 = .ok (.ireturn, 1) := by decide +kernel
theorem dX8_append_33 : decode cX8_append 33 = .ok (.aload_n 0, 1) := by decide +kernel
theorem dX8_append_34 : decode cX8_append 34 = .ok (.getfield 29, 3) := by decide +kernel
theorem dX8_append_37 : decode cX8_append 37 = .ok (.getfield 150, 3) := by decide +kernel
theorem dX8_append_40 : decode cX8_append 40 = .ok (.iload_n 1, 1) := by decide +kernel
theorem dX8_append_41 : decode cX8_append 41 = .ok (.invokevirtual 159, 3) := by decide +kernel
theorem dX8_append_44 : decode cX8_append 44 = .ok (.aload_n 0, 1) := by decide +kernel
theorem dX8_append_45 : decode cX8_append 45 = .ok (.getfield 29, 3) := by decide +kernel
theorem dX8_append_48 : decode cX8_append 48 = .ok (.getfield 150, 3) := by decide +kernel
theorem dX8_append_51 : decode cX8_append 51 = .ok (.invokevirtual 154, 3) := by decide +kernel
theorem dX8_append_54 : decode cX8_append 54 = .ok (.ireturn, 1) := by decide +kernel
theorem dX8_clearText_0 : decode cX8_clearText 0 = .ok (.aload_n 0, 1) := by decide +kernel
theorem dX8_clearText_1 : decode cX8_clearText 1 = .ok (.getfield 29, 3) := by decide +kernel
theorem dX8_clearText_4 : decode cX8_clearText 4 = .ok (.getfield 150, 3) := by decide +kernel
theorem dX8_clearText_7 : decode cX8_clearText 7 = .ok (.invokevirtual 154, 3) := by decide +kernel
theorem dX8_clearText_10 : decode cX8_clearText 10 = .ok (.istore_n 1, 1) := by decide +kernel
theorem dX8_clearText_11 : decode cX8_clearText 11 = .ok (.aload_n 0, 1) := by decide +kernel
theorem dX8_clearText_12 : decode cX8_clearText 12 = .ok (.getfield 29, 3) := by decide +kernel
theorem dX8_clearText_15 : decode cX8_clearText 15 = .ok (.getfield 150, 3) := by decide +kernel
theorem dX8_clearText_18 : decode cX8_clearText 18 = .ok (.invokevirtual 161, 3) := by decide +kernel
theorem dX8_clearText_21 : decode cX8_clearText 21 = .ok (.iload_n 1, 1) := by decide +kernel
theorem dX8_clearText_22 : decode cX8_clearText 22 = .ok (.ireturn, 1) := by decide +kernel
theorem dX8_load_0 : decode cX8_load 0 = .ok (.aload_n 0, 1) := by decide +kernel
theorem dX8_load_1 : decode cX8_load 1 = .ok (.getfield 29, 3) := by decide +kernel
theorem dX8_load_4 : decode cX8_load 4 = .ok (.aload_n 0, 1) := by decide +kernel
theorem dX8_load_5 : decode cX8_load 5 = .ok (.getfield 10, 3) := by decide +kernel
theorem dX8_load_8 : decode cX8_load 8 = .ok (.invokevirtual 164, 3) := by decide +kernel
theorem dX8_load_11 : decode cX8_load 11 = .ok (.istore_n 1, 1) := by decide +kernel
theorem dX8_load_12 : decode cX8_load 12 = .ok (.iload_n 1, 1) := by decide +kernel
theorem dX8_load_13 : decode cX8_load 13 = .ok (.ifCond .ge 5, 3) := by decide +kernel
theorem dX8_load_16 : decode cX8_load 16 = .ok (.iload_n 1, 1) := by decide +kernel
theorem dX8_load_17 : decode cX8_load 17 = .ok (.ireturn, 1) := by decide +kernel
theorem dX8_load_18 : decode cX8_load 18 = .ok (.aload_n 0, 1) := by decide +kernel
theorem dX8_load_19 : decode cX8_load 19 = .ok (.getfield 22, 3) := by decide +kernel
theorem dX8_load_22 : decode cX8_load 22 = .ok (.aload_n 0, 1) := by decide +kernel
theorem dX8_load_23 : decode cX8_load 23 = .ok (.getfield 10, 3) := by decide +kernel
theorem dX8_load_26 : decode cX8_load 26 = .ok (.invokevirtual 67, 3) := by decide +kernel
theorem dX8_load_29 : decode cX8_load 29 = .ok (.aload_n 0, 1) := by decide +kernel
theorem dX8_load_30 : decode cX8_load 30 = .ok (.getfield 10, 3) := by decide +kernel
theorem dX8_load_33 : decode cX8_load 33 = .ok (.aload_n 0, 1) := by decide +kernel
theorem dX8_load_34 : decode cX8_load 34 = .ok (.getfield 29, 3) := by decide +kernel
theorem dX8_load_37 : decode cX8_load 37 = .ok (.getfield 168, 3) := by decide +kernel
theorem dX8_load_40 : decode cX8_load 40 = .ok (.invokevirtual 169, 3) := by decide +kernel
theorem dX8_load_43 : decode cX8_load 43 = .ok (.aload_n 0, 1) := by decide +kernel
theorem dX8_load_44 : decode cX8_load 44 = .ok (.getfield 29, 3) := by decide +kernel
theorem dX8_load_47 : decode cX8_load 47 = .ok (.getfield 150, 3) := by decide +kernel
theorem dX8_load_50 : decode cX8_load 50 = .ok (.invokevirtual 161, 3) := by decide +kernel
theorem dX8_load_53 : decode cX8_load 53 = .ok (.iload_n 1, 1) := by decide +kernel
theorem dX8_load_54 : decode cX8_load 54 = .ok (.ireturn, 1) := by decide +kernel
theorem dX8_count_0 : decode cX8_count 0 = .ok (.iload_n 1, 1) := by decide +kernel
theorem dX8_count_1 : decode cX8_count 1 = .ok (.tableswitch 153 0 9 #[55, 66, 77, 88, 99, 107, 115, 126, 134, 142], 55) := by decide +kernel
theorem dX8_count_56 : decode cX8_count 56 = .ok (.aload_n 0, 1) := by decide +kernel
theorem dX8_count_57 : decode cX8_count 57 = .ok (.getfield 10, 3) := by decide +kernel
theorem dX8_count_60 : decode cX8_count 60 = .ok (.getfield 60, 3) := by decide +kernel
theorem dX8_count_63 : decode cX8_count 63 = .ok (.invokevirtual 172, 3) := by decide +kernel
theorem dX8_count_66 : decode cX8_count 66 = .ok (.ireturn, 1) := by decide +kernel
theorem dX8_count_67 : decode cX8_count 67 = .ok (.aload_n 0, 1) := by decide +kernel
theorem dX8_count_68 : decode cX8_count 68 = .ok (.getfield 10, 3) := by decide +kernel
theorem dX8_count_71 : decode cX8_count 71 = .ok (.getfield 46, 3) := by decide +kernel
theorem dX8_count_74 : decode cX8_count 74 = .ok (.invokevirtual 137, 3) := by decide +kernel
theorem dX8_count_77 : decode cX8_count 77 = .ok (.ireturn, 1) := by decide +kernel
theorem dX8_count_78 : decode cX8_count 78 = .ok (.aload_n 0, 1) := by decide +kernel
theorem dX8_count_79 : decode cX8_count 79 = .ok (.getfield 10, 3) := by decide +kernel
theorem dX8_count_82 : decode cX8_count 82 = .ok (.getfield 102, 3) := by decide +kernel
theorem dX8_count_85 : decode cX8_count 85 = .ok (.invokevirtual 106, 3) := by decide +kernel
theorem dX8_count_88 : decode cX8_count 88 = .ok (.ireturn, 1) := by decide +kernel
theorem dX8_count_89 : decode cX8_count 89 = .ok (.aload_n 0, 1) := by decide +kernel
theorem dX8_count_90 : decode cX8_count 90 = .ok (.getfield 10, 3) := by decide +kernel
theorem dX8_count_93 : decode cX8_count 93 = .ok (.getfield 102, 3) := by decide +kernel
theorem dX8_count_96 : decode cX8_count 96 = .ok (.invokevirtual 173, 3) := by decide +kernel
theorem dX8_count_99 : decode cX8_count 99 = .ok (.ireturn, 1) := by decide +kernel
theorem dX8_count_100 : decode cX8_count 100 = .ok (.aload_n 0, 1) := by decide +kernel
theorem dX8_count_101 : decode cX8_count 101 = .ok (.invokevirtual 90, 3) := by decide +kernel
theorem dX8_count_104 : decode cX8_count 104 = .ok (.invokevirtual 94, 3) := by decide +kernel
theorem dX8_count_107 : decode cX8_count 107 = .ok (.ireturn, 1) := by decide +kernel
theorem dX8_count_108 : decode cX8_count 108 = .ok (.aload_n 0, 1) := by decide +kernel
theorem dX8_count_109 : decode cX8_count 109 = .ok (.invokevirtual 90, 3) := by decide +kernel
theorem dX8_count_112 : decode cX8_count 112 = .ok (.invokevirtual 176, 3) := by decide +kernel
theorem dX8_count_115 : decode cX8_count 115 = .ok (.ireturn, 1) := by decide +kernel
theorem dX8_count_116 : decode cX8_count 116 = .ok (.aload_n 0, 1) := by decide +kernel
theorem dX8_count_117 : decode cX8_count 117 = .ok (.getfield 10, 3) := by decide +kernel
theorem dX8_count_120 : decode cX8_count 120 = .ok (.getfield 60, 3) := by decide +kernel
theorem dX8_count_123 : decode cX8_count 123 = .ok (.invokevirtual 179, 3) := by decide +kernel
theorem dX8_count_126 : decode cX8_count 126 = .ok (.ireturn, 1) := by decide +kernel
theorem dX8_count_127 : decode cX8_count 127 = .ok (.aload_n 0, 1) := by decide +kernel
theorem dX8_count_128 : decode cX8_count 128 = .ok (.getfield 10, 3) := by decide +kernel
theorem dX8_count_131 : decode cX8_count 131 = .ok (.invokevirtual 182, 3) := by decide +kernel
theorem dX8_count_134 : decode cX8_count 134 = .ok (.ireturn, 1) := by decide +kernel
theorem dX8_count_135 : decode cX8_count 135 = .ok (.aload_n 0, 1) := by decide +kernel
theorem dX8_count_136 : decode cX8_count 136 = .ok (.getfield 22, 3) := by decide +kernel
theorem dX8_count_139 : decode cX8_count 139 = .ok (.invokevirtual 146, 3) := by decide +kernel
theorem dX8_count_142 : decode cX8_count 142 = .ok (.ireturn, 1) := by decide +kernel
theorem dX8_count_143 : decode cX8_count 143 = .ok (.aload_n 0, 1) := by decide +kernel
theorem dX8_count_144 : decode cX8_count 144 = .ok (.getfield 29, 3) := by decide +kernel
theorem dX8_count_147 : decode cX8_count 147 = .ok (.getfield 150, 3) := by decide +kernel
theorem dX8_count_150 : decode cX8_count 150 = .ok (.invokevirtual 154, 3) := by decide +kernel
theorem dX8_count_153 : decode cX8_count 153 = .ok (.ireturn, 1) := by decide +kernel
theorem dX8_count_154 : decode cX8_count 154 = .ok (.iconst (-1), 1) := by decide +kernel
theorem dX8_count_155 : decode cX8_count 155 = .ok (.ireturn, 1) := by decide +kernel
theorem dX8_letter_0 : decode cX8_letter 0 = .ok (.aload_n 0, 1) := by decide +kernel
theorem dX8_letter_1 : decode cX8_letter 1 = .ok (.getfield 10, 3) := by decide +kernel
theorem dX8_letter_4 : decode cX8_letter 4 = .ok (.getfield 60, 3) := by decide +kernel
theorem dX8_letter_7 : decode cX8_letter 7 = .ok (.iload_n 1, 1) := by decide +kernel
theorem dX8_letter_8 : decode cX8_letter 8 = .ok (.invokevirtual 64, 3) := by decide +kernel
theorem dX8_letter_11 : decode cX8_letter 11 = .ok (.ifCond .eq 7, 3) := by decide +kernel
theorem dX8_letter_14 : decode cX8_letter 14 = .ok (.iload_n 2, 1) := by decide +kernel
theorem dX8_letter_15 : decode cX8_letter 15 = .ok (.ifCond .ge 5, 3) := by decide +kernel
theorem dX8_letter_18 : decode cX8_letter 18 = .ok (.iconst (-1), 1) := by decide +kernel
theorem dX8_letter_19 : decode cX8_letter 19 = .ok (.ireturn, 1) := by decide +kernel
theorem dX8_letter_20 : decode cX8_letter 20 = .ok (.aload_n 0, 1) := by decide +kernel
theorem dX8_letter_21 : decode cX8_letter 21 = .ok (.getfield 10, 3) := by decide +kernel
theorem dX8_letter_24 : decode cX8_letter 24 = .ok (.getfield 60, 3) := by decide +kernel
theorem dX8_letter_27 : decode cX8_letter 27 = .ok (.iload_n 1, 1) := by decide +kernel
theorem dX8_letter_28 : decode cX8_letter 28 = .ok (.iload_n 2, 1) := by decide +kernel
theorem dX8_letter_29 : decode cX8_letter 29 = .ok (.invokevirtual 185, 3) := by decide +kernel
theorem dX8_letter_32 : decode cX8_letter 32 = .ok (.ireturn, 1) := by decide +kernel
theorem dX8_base_0 : decode cX8_base 0 = .ok (.aload_n 0, 1) := by decide +kernel
theorem dX8_base_1 : decode cX8_base 1 = .ok (.getfield 10, 3) := by decide +kernel
theorem dX8_base_4 : decode cX8_base 4 = .ok (.getfield 60, 3) := by decide +kernel
theorem dX8_base_7 : decode cX8_base 7 = .ok (.iload_n 1, 1) := by decide +kernel
theorem dX8_base_8 : decode cX8_base 8 = .ok (.invokevirtual 64, 3) := by decide +kernel
theorem dX8_base_11 : decode cX8_base 11 = .ok (.ifCond .eq 17, 3) := by decide +kernel
theorem dX8_base_14 : decode cX8_base 14 = .ok (.aload_n 0, 1) := by decide +kernel
theorem dX8_base_15 : decode cX8_base 15 = .ok (.getfield 10, 3) := by decide +kernel
theorem dX8_base_18 : decode cX8_base 18 = .ok (.getfield 60, 3) := by decide +kernel
theorem dX8_base_21 : decode cX8_base 21 = .ok (.iload_n 1, 1) := by decide +kernel
theorem dX8_base_22 : decode cX8_base 22 = .ok (.invokevirtual 125, 3) := by decide +kernel
theorem dX8_base_25 : decode cX8_base 25 = .ok (.goto 4, 3) := by decide +kernel
theorem dX8_base_28 : decode cX8_base 28 = .ok (.iconst (-1), 1) := by decide +kernel
theorem dX8_base_29 : decode cX8_base 29 = .ok (.ireturn, 1) := by decide +kernel
theorem dX8_place_0 : decode cX8_place 0 = .ok (.aload_n 0, 1) := by decide +kernel
theorem dX8_place_1 : decode cX8_place 1 = .ok (.getfield 10, 3) := by decide +kernel
theorem dX8_place_4 : decode cX8_place 4 = .ok (.getfield 46, 3) := by decide +kernel
theorem dX8_place_7 : decode cX8_place 7 = .ok (.iload_n 1, 1) := by decide +kernel
theorem dX8_place_8 : decode cX8_place 8 = .ok (.invokevirtual 50, 3) := by decide +kernel
theorem dX8_place_11 : decode cX8_place 11 = .ok (.ifCond .eq 16, 3) := by decide +kernel
theorem dX8_place_14 : decode cX8_place 14 = .ok (.iload_n 2, 1) := by decide +kernel
theorem dX8_place_15 : decode cX8_place 15 = .ok (.ifCond .lt 12, 3) := by decide +kernel
theorem dX8_place_18 : decode cX8_place 18 = .ok (.iload_n 3, 1) := by decide +kernel
theorem dX8_place_19 : decode cX8_place 19 = .ok (.ifCond .lt 8, 3) := by decide +kernel
theorem dX8_place_22 : decode cX8_place 22 = .ok (.iload_n 3, 1) := by decide +kernel
theorem dX8_place_23 : decode cX8_place 23 = .ok (.iconst 3, 1) := by decide +kernel
theorem dX8_place_24 : decode cX8_place 24 = .ok (.if_icmp .le 5, 3) := by decide +kernel
theorem dX8_place_27 : decode cX8_place 27 = .ok (.iconst (-1), 1) := by decide +kernel
theorem dX8_place_28 : decode cX8_place 28 = .ok (.ireturn, 1) := by decide +kernel
theorem dX8_place_29 : decode cX8_place 29 = .ok (.aload_n 0, 1) := by decide +kernel
theorem dX8_place_30 : decode cX8_place 30 = .ok (.getfield 10, 3) := by decide +kernel
theorem dX8_place_33 : decode cX8_place 33 = .ok (.getfield 46, 3) := by decide +kernel
theorem dX8_place_36 : decode cX8_place 36 = .ok (.iload_n 1, 1) := by decide +kernel
theorem dX8_place_37 : decode cX8_place 37 = .ok (.iload_n 2, 1) := by decide +kernel
theorem dX8_place_38 : decode cX8_place 38 = .ok (.invokevirtual 75, 3) := by decide +kernel
theorem dX8_place_41 : decode cX8_place 41 = .ok (.ifCond .ne 6, 3) := by decide +kernel
theorem dX8_place_44 : decode cX8_place 44 = .ok (.bipush (-99), 2) := by decide +kernel
theorem dX8_place_46 : decode cX8_place 46 = .ok (.ireturn, 1) := by decide +kernel
theorem dX8_place_47 : decode cX8_place 47 = .ok (.iload_n 3, 1) := by decide +kernel
theorem dX8_place_48 : decode cX8_place 48 = .ok (.tableswitch 61 0 2 #[28, 41, 51], 28) := by decide +kernel
theorem dX8_place_76 : decode cX8_place 76 = .ok (.aload_n 0, 1) := by decide +kernel
theorem dX8_place_77 : decode cX8_place 77 = .ok (.getfield 10, 3) := by decide +kernel
theorem dX8_place_80 : decode cX8_place 80 = .ok (.getfield 46, 3) := by decide +kernel
theorem dX8_place_83 : decode cX8_place 83 = .ok (.iload_n 1, 1) := by decide +kernel
theorem dX8_place_84 : decode cX8_place 84 = .ok (.iload_n 2, 1) := by decide +kernel
theorem dX8_place_85 : decode cX8_place 85 = .ok (.invokevirtual 188, 3) := by decide +kernel
theorem dX8_place_88 : decode cX8_place 88 = .ok (.ireturn, 1) := by decide +kernel
theorem dX8_place_89 : decode cX8_place 89 = .ok (.aload_n 0, 1) := by decide +kernel
theorem dX8_place_90 : decode cX8_place 90 = .ok (.invokevirtual 90, 3) := by decide +kernel
theorem dX8_place_93 : decode cX8_place 93 = .ok (.iload_n 1, 1) := by decide +kernel
theorem dX8_place_94 : decode cX8_place 94 = .ok (.iload_n 2, 1) := by decide +kernel
theorem dX8_place_95 : decode cX8_place 95 = .ok (.invokevirtual 191, 3) := by decide +kernel
theorem dX8_place_98 : decode cX8_place 98 = .ok (.ireturn, 1) := by decide +kernel
theorem dX8_place_99 : decode cX8_place 99 = .ok (.aload_n 0, 1) := by decide +kernel
theorem dX8_place_100 : decode cX8_place 100 = .ok (.invokevirtual 90, 3) := by decide +kernel
theorem dX8_place_103 : decode cX8_place 103 = .ok (.iload_n 1, 1) := by decide +kernel
theorem dX8_place_104 : decode cX8_place 104 = .ok (.iload_n 2, 1) := by decide +kernel
theorem dX8_place_105 : decode cX8_place 105 = .ok (.invokevirtual 194, 3) := by decide +kernel
theorem dX8_place_108 : decode cX8_place 108 = .ok (.ireturn, 1) := by decide +kernel
theorem dX8_place_109 : decode cX8_place 109 = .ok (.aload_n 0, 1) := by decide +kernel
theorem dX8_place_110 : decode cX8_place 110 = .ok (.invokevirtual 90, 3) := by decide +kernel
theorem dX8_place_113 : decode cX8_place 113 = .ok (.iload_n 1, 1) := by decide +kernel
theorem dX8_place_114 : decode cX8_place 114 = .ok (.iload_n 2, 1) := by decide +kernel
theorem dX8_place_115 : decode cX8_place 115 = .ok (.invokevirtual 197, 3) := by decide +kernel
theorem dX8_place_118 : decode cX8_place 118 = .ok (.ifCond .eq 7, 3) := by decide +kernel
theorem dX8_place_121 : decode cX8_place 121 = .ok (.iconst 1, 1) := by decide +kernel
theorem dX8_place_122 : decode cX8_place 122 = .ok (.goto 4, 3) := by decide +kernel
theorem dX8_place_125 : decode cX8_place 125 = .ok (.iconst 0, 1) := by decide +kernel
theorem dX8_place_126 : decode cX8_place 126 = .ok (.ireturn, 1) := by decide +kernel
theorem dX8_term_0 : decode cX8_term 0 = .ok (.aload_n 0, 1) := by decide +kernel
theorem dX8_term_1 : decode cX8_term 1 = .ok (.getfield 10, 3) := by decide +kernel
theorem dX8_term_4 : decode cX8_term 4 = .ok (.getfield 102, 3) := by decide +kernel
theorem dX8_term_7 : decode cX8_term 7 = .ok (.iload_n 1, 1) := by decide +kernel
theorem dX8_term_8 : decode cX8_term 8 = .ok (.invokevirtual 113, 3) := by decide +kernel
theorem dX8_term_11 : decode cX8_term 11 = .ok (.ifCond .ne 5, 3) := by decide +kernel
theorem dX8_term_14 : decode cX8_term 14 = .ok (.iconst (-1), 1) := by decide +kernel
theorem dX8_term_15 : decode cX8_term 15 = .ok (.ireturn, 1) := by decide +kernel
theorem dX8_term_16 : decode cX8_term 16 = .ok (.iload_n 2, 1) := by decide +kernel
theorem dX8_term_17 : decode cX8_term 17 = .ok (.tableswitch 125 0 8 #[51, 63, 63, 63, 63, 78, 98, 107, 116], 51) := by decide +kernel
theorem dX8_term_68 : decode cX8_term 68 = .ok (.aload_n 0, 1) := by decide +kernel
theorem dX8_term_69 : decode cX8_term 69 = .ok (.getfield 10, 3) := by decide +kernel
theorem dX8_term_72 : decode cX8_term 72 = .ok (.getfield 102, 3) := by decide +kernel
theorem dX8_term_75 : decode cX8_term 75 = .ok (.iload_n 1, 1) := by decide +kernel
theorem dX8_term_76 : decode cX8_term 76 = .ok (.invokevirtual 200, 3) := by decide +kernel
theorem dX8_term_79 : decode cX8_term 79 = .ok (.ireturn, 1) := by decide +kernel
theorem dX8_term_80 : decode cX8_term 80 = .ok (.aload_n 0, 1) := by decide +kernel
theorem dX8_term_81 : decode cX8_term 81 = .ok (.getfield 10, 3) := by decide +kernel
theorem dX8_term_84 : decode cX8_term 84 = .ok (.getfield 102, 3) := by decide +kernel
theorem dX8_term_87 : decode cX8_term 87 = .ok (.iload_n 1, 1) := by decide +kernel
theorem dX8_term_88 : decode cX8_term 88 = .ok (.iload_n 2, 1) := by decide +kernel
theorem dX8_term_89 : decode cX8_term 89 = .ok (.iconst 1, 1) := by decide +kernel
theorem dX8_term_90 : decode cX8_term 90 = .ok (.isub, 1) := by decide +kernel
theorem dX8_term_91 : decode cX8_term 91 = .ok (.invokevirtual 201, 3) := by decide +kernel
theorem dX8_term_94 : decode cX8_term 94 = .ok (.ireturn, 1) := by decide +kernel
theorem dX8_term_95 : decode cX8_term 95 = .ok (.aload_n 0, 1) := by decide +kernel
theorem dX8_term_96 : decode cX8_term 96 = .ok (.getfield 10, 3) := by decide +kernel
theorem dX8_term_99 : decode cX8_term 99 = .ok (.getfield 102, 3) := by decide +kernel
theorem dX8_term_102 : decode cX8_term 102 = .ok (.iload_n 1, 1) := by decide +kernel
theorem dX8_term_103 : decode cX8_term 103 = .ok (.invokevirtual 202, 3) := by decide +kernel
theorem dX8_term_106 : decode cX8_term 106 = .ok (.ifCond .eq 7, 3) := by decide +kernel
theorem dX8_term_109 : decode cX8_term 109 = .ok (.iconst 1, 1) := by decide +kernel
theorem dX8_term_110 : decode cX8_term 110 = .ok (.goto 4, 3) := by decide +kernel
theorem dX8_term_113 : decode cX8_term 113 = .ok (.iconst 0, 1) := by decide +kernel
theorem dX8_term_114 : decode cX8_term 114 = .ok (.ireturn, 1) := by decide +kernel
theorem dX8_term_115 : decode cX8_term 115 = .ok (.aload_n 0, 1) := by decide +kernel
theorem dX8_term_116 : decode cX8_term 116 = .ok (.invokevirtual 90, 3) := by decide +kernel
theorem dX8_term_119 : decode cX8_term 119 = .ok (.iload_n 1, 1) := by decide +kernel
theorem dX8_term_120 : decode cX8_term 120 = .ok (.invokevirtual 205, 3) := by decide +kernel
theorem dX8_term_123 : decode cX8_term 123 = .ok (.ireturn, 1) := by decide +kernel
theorem dX8_term_124 : decode cX8_term 124 = .ok (.aload_n 0, 1) := by decide +kernel
theorem dX8_term_125 : decode cX8_term 125 = .ok (.getfield 10, 3) := by decide +kernel
theorem dX8_term_128 : decode cX8_term 128 = .ok (.iload_n 1, 1) := by decide +kernel
theorem dX8_term_129 : decode cX8_term 129 = .ok (.invokevirtual 208, 3) := by decide +kernel
theorem dX8_term_132 : decode cX8_term 132 = .ok (.ireturn, 1) := by decide +kernel
theorem dX8_term_133 : decode cX8_term 133 = .ok (.aload_n 0, 1) := by decide +kernel
theorem dX8_term_134 : decode cX8_term 134 = .ok (.invokevirtual 90, 3) := by decide +kernel
theorem dX8_term_137 : decode cX8_term 137 = .ok (.iload_n 1, 1) := by decide +kernel
theorem dX8_term_138 : decode cX8_term 138 = .ok (.invokevirtual 211, 3) := by decide +kernel
theorem dX8_term_141 : decode cX8_term 141 = .ok (.ireturn, 1) := by decide +kernel
theorem dX8_term_142 : decode cX8_term 142 = .ok (.iconst (-1), 1) := by decide +kernel
theorem dX8_term_143 : decode cX8_term 143 = .ok (.ireturn, 1) := by decide +kernel
theorem dX8_firstUse_0 : decode cX8_firstUse 0 = .ok (.aload_n 0, 1) := by decide +kernel
theorem dX8_firstUse_1 : decode cX8_firstUse 1 = .ok (.getfield 10, 3) := by decide +kernel
theorem dX8_firstUse_4 : decode cX8_firstUse 4 = .ok (.getfield 102, 3) := by decide +kernel
theorem dX8_firstUse_7 : decode cX8_firstUse 7 = .ok (.iload_n 1, 1) := by decide +kernel
theorem dX8_firstUse_8 : decode cX8_firstUse 8 = .ok (.invokevirtual 113, 3) := by decide +kernel
theorem dX8_firstUse_11 : decode cX8_firstUse 11 = .ok (.ifCond .eq 17, 3) := by decide +kernel
theorem dX8_firstUse_14 : decode cX8_firstUse 14 = .ok (.aload_n 0, 1) := by decide +kernel
theorem dX8_firstUse_15 : decode cX8_firstUse 15 = .ok (.getfield 10, 3) := by decide +kernel
theorem dX8_firstUse_18 : decode cX8_firstUse 18 = .ok (.getfield 46, 3) := by decide +kernel
theorem dX8_firstUse_21 : decode cX8_firstUse 21 = .ok (.iload_n 2, 1) := by decide +kernel
theorem dX8_firstUse_22 : decode cX8_firstUse 22 = .ok (.invokevirtual 50, 3) := by decide +kernel
theorem dX8_firstUse_25 : decode cX8_firstUse 25 = .ok (.ifCond .ne 5, 3) := by decide +kernel
theorem dX8_firstUse_28 : decode cX8_firstUse 28 = .ok (.iconst (-1), 1) := by decide +kernel
theorem dX8_firstUse_29 : decode cX8_firstUse 29 = .ok (.ireturn, 1) := by decide +kernel
theorem dX8_firstUse_30 : decode cX8_firstUse 30 = .ok (.aload_n 0, 1) := by decide +kernel
theorem dX8_firstUse_31 : decode cX8_firstUse 31 = .ok (.invokevirtual 90, 3) := by decide +kernel
theorem dX8_firstUse_34 : decode cX8_firstUse 34 = .ok (.iload_n 1, 1) := by decide +kernel
theorem dX8_firstUse_35 : decode cX8_firstUse 35 = .ok (.iload_n 2, 1) := by decide +kernel
theorem dX8_firstUse_36 : decode cX8_firstUse 36 = .ok (.invokevirtual 214, 3) := by decide +kernel
theorem dX8_firstUse_39 : decode cX8_firstUse 39 = .ok (.ireturn, 1) := by decide +kernel
theorem dX8_mark_0 : decode cX8_mark 0 = .ok (.iload_n 1, 1) := by decide +kernel
theorem dX8_mark_1 : decode cX8_mark 1 = .ok (.ifCond .lt 12, 3) := by decide +kernel
theorem dX8_mark_4 : decode cX8_mark 4 = .ok (.iload_n 2, 1) := by decide +kernel
theorem dX8_mark_5 : decode cX8_mark 5 = .ok (.ifCond .lt 8, 3) := by decide +kernel
theorem dX8_mark_8 : decode cX8_mark 8 = .ok (.iload_n 2, 1) := by decide +kernel
theorem dX8_mark_9 : decode cX8_mark 9 = .ok (.iconst 2, 1) := by decide +kernel
theorem dX8_mark_10 : decode cX8_mark 10 = .ok (.if_icmp .le 5, 3) := by decide +kernel
theorem dX8_mark_13 : decode cX8_mark 13 = .ok (.iconst (-1), 1) := by decide +kernel
theorem dX8_mark_14 : decode cX8_mark 14 = .ok (.ireturn, 1) := by decide +kernel
theorem dX8_mark_15 : decode cX8_mark 15 = .ok (.aload_n 0, 1) := by decide +kernel
theorem dX8_mark_16 : decode cX8_mark 16 = .ok (.invokevirtual 90, 3) := by decide +kernel
theorem dX8_mark_19 : decode cX8_mark 19 = .ok (.iload_n 1, 1) := by decide +kernel
theorem dX8_mark_20 : decode cX8_mark 20 = .ok (.iload_n 2, 1) := by decide +kernel
theorem dX8_mark_21 : decode cX8_mark 21 = .ok (.invokevirtual 217, 3) := by decide +kernel
theorem dX8_mark_24 : decode cX8_mark 24 = .ok (.ireturn, 1) := by decide +kernel
theorem dX8_why_0 : decode cX8_why 0 = .ok (.aload_n 0, 1) := by decide +kernel
theorem dX8_why_1 : decode cX8_why 1 = .ok (.getfield 10, 3) := by decide +kernel
theorem dX8_why_4 : decode cX8_why 4 = .ok (.getfield 46, 3) := by decide +kernel
theorem dX8_why_7 : decode cX8_why 7 = .ok (.iload_n 1, 1) := by decide +kernel
theorem dX8_why_8 : decode cX8_why 8 = .ok (.iload_n 2, 1) := by decide +kernel
theorem dX8_why_9 : decode cX8_why 9 = .ok (.invokevirtual 75, 3) := by decide +kernel
theorem dX8_why_12 : decode cX8_why 12 = .ok (.ifCond .eq 17, 3) := by decide +kernel
theorem dX8_why_15 : decode cX8_why 15 = .ok (.aload_n 0, 1) := by decide +kernel
theorem dX8_why_16 : decode cX8_why 16 = .ok (.getfield 10, 3) := by decide +kernel
theorem dX8_why_19 : decode cX8_why 19 = .ok (.getfield 102, 3) := by decide +kernel
theorem dX8_why_22 : decode cX8_why 22 = .ok (.iload_n 3, 1) := by decide +kernel
theorem dX8_why_23 : decode cX8_why 23 = .ok (.invokevirtual 113, 3) := by decide +kernel
theorem dX8_why_26 : decode cX8_why 26 = .ok (.ifCond .ne 5, 3) := by decide +kernel
theorem dX8_why_29 : decode cX8_why 29 = .ok (.iconst (-1), 1) := by decide +kernel
theorem dX8_why_30 : decode cX8_why 30 = .ok (.ireturn, 1) := by decide +kernel
theorem dX8_why_31 : decode cX8_why 31 = .ok (.aload_n 0, 1) := by decide +kernel
theorem dX8_why_32 : decode cX8_why 32 = .ok (.getfield 10, 3) := by decide +kernel
theorem dX8_why_35 : decode cX8_why 35 = .ok (.iload_n 3, 1) := by decide +kernel
theorem dX8_why_36 : decode cX8_why 36 = .ok (.iload_n 1, 1) := by decide +kernel
theorem dX8_why_37 : decode cX8_why 37 = .ok (.iload_n 2, 1) := by decide +kernel
theorem dX8_why_38 : decode cX8_why 38 = .ok (.invokevirtual 220, 3) := by decide +kernel
theorem dX8_why_41 : decode cX8_why 41 = .ok (.ifCond .ne 5, 3) := by decide +kernel
theorem dX8_why_44 : decode cX8_why 44 = .ok (.iconst 1, 1) := by decide +kernel
theorem dX8_why_45 : decode cX8_why 45 = .ok (.ireturn, 1) := by decide +kernel
theorem dX8_why_46 : decode cX8_why 46 = .ok (.aload_n 0, 1) := by decide +kernel
theorem dX8_why_47 : decode cX8_why 47 = .ok (.invokevirtual 90, 3) := by decide +kernel
theorem dX8_why_50 : decode cX8_why 50 = .ok (.astore 4, 2) := by decide +kernel
theorem dX8_why_52 : decode cX8_why 52 = .ok (.aload 4, 2) := by decide +kernel
theorem dX8_why_54 : decode cX8_why 54 = .ok (.iload_n 1, 1) := by decide +kernel
theorem dX8_why_55 : decode cX8_why 55 = .ok (.iload_n 2, 1) := by decide +kernel
theorem dX8_why_56 : decode cX8_why 56 = .ok (.invokevirtual 194, 3) := by decide +kernel
theorem dX8_why_59 : decode cX8_why 59 = .ok (.ifCond .le 5, 3) := by decide +kernel
theorem dX8_why_62 : decode cX8_why 62 = .ok (.iconst 3, 1) := by decide +kernel
theorem dX8_why_63 : decode cX8_why 63 = .ok (.ireturn, 1) := by decide +kernel
theorem dX8_why_64 : decode cX8_why 64 = .ok (.aload 4, 2) := by decide +kernel
theorem dX8_why_66 : decode cX8_why 66 = .ok (.iload_n 1, 1) := by decide +kernel
theorem dX8_why_67 : decode cX8_why 67 = .ok (.iload_n 2, 1) := by decide +kernel
theorem dX8_why_68 : decode cX8_why 68 = .ok (.invokevirtual 191, 3) := by decide +kernel
theorem dX8_why_71 : decode cX8_why 71 = .ok (.iload_n 3, 1) := by decide +kernel
theorem dX8_why_72 : decode cX8_why 72 = .ok (.if_icmp .eq 5, 3) := by decide +kernel
theorem dX8_why_75 : decode cX8_why 75 = .ok (.iconst 2, 1) := by decide +kernel
theorem dX8_why_76 : decode cX8_why 76 = .ok (.ireturn, 1) := by decide +kernel
theorem dX8_why_77 : decode cX8_why 77 = .ok (.aload_n 0, 1) := by decide +kernel
theorem dX8_why_78 : decode cX8_why 78 = .ok (.getfield 10, 3) := by decide +kernel
theorem dX8_why_81 : decode cX8_why 81 = .ok (.getfield 102, 3) := by decide +kernel
theorem dX8_why_84 : decode cX8_why 84 = .ok (.iload_n 3, 1) := by decide +kernel
theorem dX8_why_85 : decode cX8_why 85 = .ok (.invokevirtual 202, 3) := by decide +kernel
theorem dX8_why_88 : decode cX8_why 88 = .ok (.ifCond .eq 5, 3) := by decide +kernel
theorem dX8_why_91 : decode cX8_why 91 = .ok (.iconst 4, 1) := by decide +kernel
theorem dX8_why_92 : decode cX8_why 92 = .ok (.ireturn, 1) := by decide +kernel
theorem dX8_why_93 : decode cX8_why 93 = .ok (.aload 4, 2) := by decide +kernel
theorem dX8_why_95 : decode cX8_why 95 = .ok (.iload_n 3, 1) := by decide +kernel
theorem dX8_why_96 : decode cX8_why 96 = .ok (.iload_n 1, 1) := by decide +kernel
theorem dX8_why_97 : decode cX8_why 97 = .ok (.invokevirtual 214, 3) := by decide +kernel
theorem dX8_why_100 : decode cX8_why 100 = .ok (.iload_n 2, 1) := by decide +kernel
theorem dX8_why_101 : decode cX8_why 101 = .ok (.if_icmp .ne 7, 3) := by decide +kernel
theorem dX8_why_104 : decode cX8_why 104 = .ok (.iconst 0, 1) := by decide +kernel
theorem dX8_why_105 : decode cX8_why 105 = .ok (.goto 4, 3) := by decide +kernel
theorem dX8_why_108 : decode cX8_why 108 = .ok (.iconst 5, 1) := by decide +kernel
theorem dX8_why_109 : decode cX8_why 109 = .ok (.ireturn, 1) := by decide +kernel
theorem dX8_nested_0 : decode cX8_nested 0 = .ok (.aload_n 0, 1) := by decide +kernel
theorem dX8_nested_1 : decode cX8_nested 1 = .ok (.getfield 10, 3) := by decide +kernel
theorem dX8_nested_4 : decode cX8_nested 4 = .ok (.getfield 102, 3) := by decide +kernel
theorem dX8_nested_7 : decode cX8_nested 7 = .ok (.iload_n 1, 1) := by decide +kernel
theorem dX8_nested_8 : decode cX8_nested 8 = .ok (.invokevirtual 113, 3) := by decide +kernel
theorem dX8_nested_11 : decode cX8_nested 11 = .ok (.ifCond .eq 17, 3) := by decide +kernel
theorem dX8_nested_14 : decode cX8_nested 14 = .ok (.aload_n 0, 1) := by decide +kernel
theorem dX8_nested_15 : decode cX8_nested 15 = .ok (.getfield 10, 3) := by decide +kernel
theorem dX8_nested_18 : decode cX8_nested 18 = .ok (.getfield 102, 3) := by decide +kernel
theorem dX8_nested_21 : decode cX8_nested 21 = .ok (.iload_n 2, 1) := by decide +kernel
theorem dX8_nested_22 : decode cX8_nested 22 = .ok (.invokevirtual 113, 3) := by decide +kernel
theorem dX8_nested_25 : decode cX8_nested 25 = .ok (.ifCond .ne 5, 3) := by decide +kernel
theorem dX8_nested_28 : decode cX8_nested 28 = .ok (.iconst (-1), 1) := by decide +kernel
theorem dX8_nested_29 : decode cX8_nested 29 = .ok (.ireturn, 1) := by decide +kernel
theorem dX8_nested_30 : decode cX8_nested 30 = .ok (.aload_n 0, 1) := by decide +kernel
theorem dX8_nested_31 : decode cX8_nested 31 = .ok (.getfield 10, 3) := by decide +kernel
theorem dX8_nested_34 : decode cX8_nested 34 = .ok (.iload_n 1, 1) := by decide +kernel
theorem dX8_nested_35 : decode cX8_nested 35 = .ok (.iload_n 2, 1) := by decide +kernel
theorem dX8_nested_36 : decode cX8_nested 36 = .ok (.invokevirtual 224, 3) := by decide +kernel
theorem dX8_nested_39 : decode cX8_nested 39 = .ok (.ireturn, 1) := by decide +kernel
theorem dX8_gain_0 : decode cX8_gain 0 = .ok (.aload_n 0, 1) := by decide +kernel
theorem dX8_gain_1 : decode cX8_gain 1 = .ok (.iload_n 1, 1) := by decide +kernel
theorem dX8_gain_2 : decode cX8_gain 2 = .ok (.iload_n 2, 1) := by decide +kernel
theorem dX8_gain_3 : decode cX8_gain 3 = .ok (.iload_n 3, 1) := by decide +kernel
theorem dX8_gain_4 : decode cX8_gain 4 = .ok (.iload 4, 2) := by decide +kernel
theorem dX8_gain_6 : decode cX8_gain 6 = .ok (.invokevirtual 98, 3) := by decide +kernel
theorem dX8_gain_9 : decode cX8_gain 9 = .ok (.istore 5, 2) := by decide +kernel
theorem dX8_gain_11 : decode cX8_gain 11 = .ok (.iload 5, 2) := by decide +kernel
theorem dX8_gain_13 : decode cX8_gain 13 = .ok (.ifCond .ge 6, 3) := by decide +kernel
theorem dX8_gain_16 : decode cX8_gain 16 = .ok (.iload 5, 2) := by decide +kernel
theorem dX8_gain_18 : decode cX8_gain 18 = .ok (.ireturn, 1) := by decide +kernel
theorem dX8_gain_19 : decode cX8_gain 19 = .ok (.aload_n 0, 1) := by decide +kernel
theorem dX8_gain_20 : decode cX8_gain 20 = .ok (.invokevirtual 90, 3) := by decide +kernel
theorem dX8_gain_23 : decode cX8_gain 23 = .ok (.invokevirtual 94, 3) := by decide +kernel
theorem dX8_gain_26 : decode cX8_gain 26 = .ok (.istore 6, 2) := by decide +kernel
theorem dX8_gain_28 : decode cX8_gain 28 = .ok (.aload_n 0, 1) := by decide +kernel
theorem dX8_gain_29 : decode cX8_gain 29 = .ok (.getfield 16, 3) := by decide +kernel
theorem dX8_gain_32 : decode cX8_gain 32 = .ok (.aload_n 0, 1) := by decide +kernel
theorem dX8_gain_33 : decode cX8_gain 33 = .ok (.getfield 10, 3) := by decide +kernel
theorem dX8_gain_36 : decode cX8_gain 36 = .ok (.invokevirtual 169, 3) := by decide +kernel
theorem dX8_gain_39 : decode cX8_gain 39 = .ok (.aload_n 0, 1) := by decide +kernel
theorem dX8_gain_40 : decode cX8_gain 40 = .ok (.getfield 16, 3) := by decide +kernel
theorem dX8_gain_43 : decode cX8_gain 43 = .ok (.getfield 102, 3) := by decide +kernel
theorem dX8_gain_46 : decode cX8_gain 46 = .ok (.aload_n 0, 1) := by decide +kernel
theorem dX8_gain_47 : decode cX8_gain 47 = .ok (.getfield 42, 3) := by decide +kernel
theorem dX8_gain_50 : decode cX8_gain 50 = .ok (.iload 5, 2) := by decide +kernel
theorem dX8_gain_52 : decode cX8_gain 52 = .ok (.invokevirtual 109, 3) := by decide +kernel
theorem dX8_gain_55 : decode cX8_gain 55 = .ok (.aload_n 0, 1) := by decide +kernel
theorem dX8_gain_56 : decode cX8_gain 56 = .ok (.getfield 36, 3) := by decide +kernel
theorem dX8_gain_59 : decode cX8_gain 59 = .ok (.aload_n 0, 1) := by decide +kernel
theorem dX8_gain_60 : decode cX8_gain 60 = .ok (.getfield 16, 3) := by decide +kernel
theorem dX8_gain_63 : decode cX8_gain 63 = .ok (.invokevirtual 227, 3) := by decide +kernel
theorem dX8_gain_66 : decode cX8_gain 66 = .ok (.bipush 100, 2) := by decide +kernel
theorem dX8_gain_68 : decode cX8_gain 68 = .ok (.aload_n 0, 1) := by decide +kernel
theorem dX8_gain_69 : decode cX8_gain 69 = .ok (.getfield 36, 3) := by decide +kernel
theorem dX8_gain_72 : decode cX8_gain 72 = .ok (.invokevirtual 94, 3) := by decide +kernel
theorem dX8_gain_75 : decode cX8_gain 75 = .ok (.iadd, 1) := by decide +kernel
theorem dX8_gain_76 : decode cX8_gain 76 = .ok (.iload 6, 2) := by decide +kernel
theorem dX8_gain_78 : decode cX8_gain 78 = .ok (.isub, 1) := by decide +kernel
theorem dX8_gain_79 : decode cX8_gain 79 = .ok (.ireturn, 1) := by decide +kernel
theorem dX8_greediest_0 : decode cX8_greediest 0 = .ok (.bipush (-99), 2) := by decide +kernel
theorem dX8_greediest_2 : decode cX8_greediest 2 = .ok (.istore_n 1, 1) := by decide +kernel
theorem dX8_greediest_3 : decode cX8_greediest 3 = .ok (.iconst (-1), 1) := by decide +kernel
theorem dX8_greediest_4 : decode cX8_greediest 4 = .ok (.istore_n 2, 1) := by decide +kernel
theorem dX8_greediest_5 : decode cX8_greediest 5 = .ok (.iconst 0, 1) := by decide +kernel
theorem dX8_greediest_6 : decode cX8_greediest 6 = .ok (.istore_n 3, 1) := by decide +kernel
theorem dX8_greediest_7 : decode cX8_greediest 7 = .ok (.iload_n 3, 1) := by decide +kernel
theorem dX8_greediest_8 : decode cX8_greediest 8 = .ok (.aload_n 0, 1) := by decide +kernel
theorem dX8_greediest_9 : decode cX8_greediest 9 = .ok (.getfield 10, 3) := by decide +kernel
theorem dX8_greediest_12 : decode cX8_greediest 12 = .ok (.getfield 102, 3) := by decide +kernel
theorem dX8_greediest_15 : decode cX8_greediest 15 = .ok (.invokevirtual 106, 3) := by decide +kernel
theorem dX8_greediest_18 : decode cX8_greediest 18 = .ok (.if_icmp .ge 63, 3) := by decide +kernel
theorem dX8_greediest_21 : decode cX8_greediest 21 = .ok (.aload_n 0, 1) := by decide +kernel
theorem dX8_greediest_22 : decode cX8_greediest 22 = .ok (.getfield 16, 3) := by decide +kernel
theorem dX8_greediest_25 : decode cX8_greediest 25 = .ok (.aload_n 0, 1) := by decide +kernel
theorem dX8_greediest_26 : decode cX8_greediest 26 = .ok (.getfield 10, 3) := by decide +kernel
theorem dX8_greediest_29 : decode cX8_greediest 29 = .ok (.invokevirtual 169, 3) := by decide +kernel
theorem dX8_greediest_32 : decode cX8_greediest 32 = .ok (.aload_n 0, 1) := by decide +kernel
theorem dX8_greediest_33 : decode cX8_greediest 33 = .ok (.getfield 16, 3) := by decide +kernel
theorem dX8_greediest_36 : decode cX8_greediest 36 = .ok (.getfield 102, 3) := by decide +kernel
theorem dX8_greediest_39 : decode cX8_greediest 39 = .ok (.iload_n 3, 1) := by decide +kernel
theorem dX8_greediest_40 : decode cX8_greediest 40 = .ok (.invokevirtual 114, 3) := by decide +kernel
theorem dX8_greediest_43 : decode cX8_greediest 43 = .ok (.aload_n 0, 1) := by decide +kernel
theorem dX8_greediest_44 : decode cX8_greediest 44 = .ok (.getfield 36, 3) := by decide +kernel
theorem dX8_greediest_47 : decode cX8_greediest 47 = .ok (.aload_n 0, 1) := by decide +kernel
theorem dX8_greediest_48 : decode cX8_greediest 48 = .ok (.getfield 16, 3) := by decide +kernel
theorem dX8_greediest_51 : decode cX8_greediest 51 = .ok (.invokevirtual 227, 3) := by decide +kernel
theorem dX8_greediest_54 : decode cX8_greediest 54 = .ok (.aload_n 0, 1) := by decide +kernel
theorem dX8_greediest_55 : decode cX8_greediest 55 = .ok (.getfield 36, 3) := by decide +kernel
theorem dX8_greediest_58 : decode cX8_greediest 58 = .ok (.invokevirtual 94, 3) := by decide +kernel
theorem dX8_greediest_61 : decode cX8_greediest 61 = .ok (.iload_n 2, 1) := by decide +kernel
theorem dX8_greediest_62 : decode cX8_greediest 62 = .ok (.if_icmp .le 13, 3) := by decide +kernel
theorem dX8_greediest_65 : decode cX8_greediest 65 = .ok (.aload_n 0, 1) := by decide +kernel
theorem dX8_greediest_66 : decode cX8_greediest 66 = .ok (.getfield 36, 3) := by decide +kernel
theorem dX8_greediest_69 : decode cX8_greediest 69 = .ok (.invokevirtual 94, 3) := by decide +kernel
theorem dX8_greediest_72 : decode cX8_greediest 72 = .ok (.istore_n 2, 1) := by decide +kernel
theorem dX8_greediest_73 : decode cX8_greediest 73 = .ok (.iload_n 3, 1) := by decide +kernel
theorem dX8_greediest_74 : decode cX8_greediest 74 = .ok (.istore_n 1, 1) := by decide +kernel
theorem dX8_greediest_75 : decode cX8_greediest 75 = .ok (.iinc 3 1, 3) := by decide +kernel
theorem dX8_greediest_78 : decode cX8_greediest 78 = .ok (.goto (-71), 3) := by decide +kernel
theorem dX8_greediest_81 : decode cX8_greediest 81 = .ok (.iload_n 1, 1) := by decide +kernel
theorem dX8_greediest_82 : decode cX8_greediest 82 = .ok (.ireturn, 1) := by decide +kernel
theorem dX8_readNow_0 : decode cX8_readNow 0 = .ok (.aload_n 0, 1) := by decide +kernel
theorem dX8_readNow_1 : decode cX8_readNow 1 = .ok (.getfield 36, 3) := by decide +kernel
theorem dX8_readNow_4 : decode cX8_readNow 4 = .ok (.aload_n 0, 1) := by decide +kernel
theorem dX8_readNow_5 : decode cX8_readNow 5 = .ok (.getfield 10, 3) := by decide +kernel
theorem dX8_readNow_8 : decode cX8_readNow 8 = .ok (.invokevirtual 227, 3) := by decide +kernel
theorem dX8_readNow_11 : decode cX8_readNow 11 = .ok (.aload_n 0, 1) := by decide +kernel
theorem dX8_readNow_12 : decode cX8_readNow 12 = .ok (.getfield 36, 3) := by decide +kernel
theorem dX8_readNow_15 : decode cX8_readNow 15 = .ok (.areturn, 1) := by decide +kernel
theorem dX8_ask_0 : decode cX8_ask 0 = .ok (.aload_n 0, 1) := by decide +kernel
theorem dX8_ask_1 : decode cX8_ask 1 = .ok (.getfield 42, 3) := by decide +kernel
theorem dX8_ask_4 : decode cX8_ask 4 = .ok (.iconst 0, 1) := by decide +kernel
theorem dX8_ask_5 : decode cX8_ask 5 = .ok (.iload_n 1, 1) := by decide +kernel
theorem dX8_ask_6 : decode cX8_ask 6 = .ok (.iastore, 1) := by decide +kernel
theorem dX8_ask_7 : decode cX8_ask 7 = .ok (.aload_n 0, 1) := by decide +kernel
theorem dX8_ask_8 : decode cX8_ask 8 = .ok (.getfield 42, 3) := by decide +kernel
theorem dX8_ask_11 : decode cX8_ask 11 = .ok (.iconst 1, 1) := by decide +kernel
theorem dX8_ask_12 : decode cX8_ask 12 = .ok (.iload_n 2, 1) := by decide +kernel
theorem dX8_ask_13 : decode cX8_ask 13 = .ok (.iastore, 1) := by decide +kernel
theorem dX8_ask_14 : decode cX8_ask 14 = .ok (.aload_n 0, 1) := by decide +kernel
theorem dX8_ask_15 : decode cX8_ask 15 = .ok (.getfield 42, 3) := by decide +kernel
theorem dX8_ask_18 : decode cX8_ask 18 = .ok (.iconst 2, 1) := by decide +kernel
theorem dX8_ask_19 : decode cX8_ask 19 = .ok (.iload_n 3, 1) := by decide +kernel
theorem dX8_ask_20 : decode cX8_ask 20 = .ok (.iastore, 1) := by decide +kernel
theorem dX8_ask_21 : decode cX8_ask 21 = .ok (.aload_n 0, 1) := by decide +kernel
theorem dX8_ask_22 : decode cX8_ask 22 = .ok (.getfield 42, 3) := by decide +kernel
theorem dX8_ask_25 : decode cX8_ask 25 = .ok (.iconst 3, 1) := by decide +kernel
theorem dX8_ask_26 : decode cX8_ask 26 = .ok (.iload 4, 2) := by decide +kernel
theorem dX8_ask_28 : decode cX8_ask 28 = .ok (.iastore, 1) := by decide +kernel
theorem dX8_ask_29 : decode cX8_ask 29 = .ok (.aload_n 0, 1) := by decide +kernel
theorem dX8_ask_30 : decode cX8_ask 30 = .ok (.invokevirtual 229, 3) := by decide +kernel
theorem dX8_ask_33 : decode cX8_ask 33 = .ok (.istore 5, 2) := by decide +kernel
theorem dX8_ask_35 : decode cX8_ask 35 = .ok (.iload 5, 2) := by decide +kernel
theorem dX8_ask_37 : decode cX8_ask 37 = .ok (.ifCond .le 32, 3) := by decide +kernel
theorem dX8_ask_40 : decode cX8_ask 40 = .ok (.aload_n 0, 1) := by decide +kernel
theorem dX8_ask_41 : decode cX8_ask 41 = .ok (.getfield 10, 3) := by decide +kernel
theorem dX8_ask_44 : decode cX8_ask 44 = .ok (.getfield 102, 3) := by decide +kernel
theorem dX8_ask_47 : decode cX8_ask 47 = .ok (.aload_n 0, 1) := by decide +kernel
theorem dX8_ask_48 : decode cX8_ask 48 = .ok (.getfield 10, 3) := by decide +kernel
theorem dX8_ask_51 : decode cX8_ask 51 = .ok (.getfield 60, 3) := by decide +kernel
theorem dX8_ask_54 : decode cX8_ask 54 = .ok (.aload_n 0, 1) := by decide +kernel
theorem dX8_ask_55 : decode cX8_ask 55 = .ok (.getfield 42, 3) := by decide +kernel
theorem dX8_ask_58 : decode cX8_ask 58 = .ok (.iload 5, 2) := by decide +kernel
theorem dX8_ask_60 : decode cX8_ask 60 = .ok (.invokevirtual 232, 3) := by decide +kernel
theorem dX8_ask_63 : decode cX8_ask 63 = .ok (.ifCond .eq 6, 3) := by decide +kernel
theorem dX8_ask_66 : decode cX8_ask 66 = .ok (.bipush (-2), 2) := by decide +kernel
theorem dX8_ask_68 : decode cX8_ask 68 = .ok (.ireturn, 1) := by decide +kernel
theorem dX8_ask_69 : decode cX8_ask 69 = .ok (.iload 5, 2) := by decide +kernel
theorem dX8_ask_71 : decode cX8_ask 71 = .ok (.ireturn, 1) := by decide +kernel
theorem dX8_askedLength_0 : decode cX8_askedLength 0 = .ok (.iconst 0, 1) := by decide +kernel
theorem dX8_askedLength_1 : decode cX8_askedLength 1 = .ok (.istore_n 1, 1) := by decide +kernel
theorem dX8_askedLength_2 : decode cX8_askedLength 2 = .ok (.iconst 0, 1) := by decide +kernel
theorem dX8_askedLength_3 : decode cX8_askedLength 3 = .ok (.istore_n 2, 1) := by decide +kernel
theorem dX8_askedLength_4 : decode cX8_askedLength 4 = .ok (.iload_n 2, 1) := by decide +kernel
theorem dX8_askedLength_5 : decode cX8_askedLength 5 = .ok (.iconst 4, 1) := by decide +kernel
theorem dX8_askedLength_6 : decode cX8_askedLength 6 = .ok (.if_icmp .ge 51, 3) := by decide +kernel
theorem dX8_askedLength_9 : decode cX8_askedLength 9 = .ok (.aload_n 0, 1) := by decide +kernel
theorem dX8_askedLength_10 : decode cX8_askedLength 10 = .ok (.getfield 42, 3) := by decide +kernel
theorem dX8_askedLength_13 : decode cX8_askedLength 13 = .ok (.iload_n 2, 1) := by decide +kernel
theorem dX8_askedLength_14 : decode cX8_askedLength 14 = .ok (.iaload, 1) := by decide +kernel
theorem dX8_askedLength_15 : decode cX8_askedLength 15 = .ok (.iconst (-1), 1) := by decide +kernel
theorem dX8_askedLength_16 : decode cX8_askedLength 16 = .ok (.if_icmp .ne 6, 3) := by decide +kernel
theorem dX8_askedLength_19 : decode cX8_askedLength 19 = .ok (.goto 32, 3) := by decide +kernel
theorem dX8_askedLength_22 : decode cX8_askedLength 22 = .ok (.aload_n 0, 1) := by decide +kernel
theorem dX8_askedLength_23 : decode cX8_askedLength 23 = .ok (.getfield 10, 3) := by decide +kernel
theorem dX8_askedLength_26 : decode cX8_askedLength 26 = .ok (.getfield 60, 3) := by decide +kernel
theorem dX8_askedLength_29 : decode cX8_askedLength 29 = .ok (.aload_n 0, 1) := by decide +kernel
theorem dX8_askedLength_30 : decode cX8_askedLength 30 = .ok (.getfield 42, 3) := by decide +kernel
theorem dX8_askedLength_33 : decode cX8_askedLength 33 = .ok (.iload_n 2, 1) := by decide +kernel
theorem dX8_askedLength_34 : decode cX8_askedLength 34 = .ok (.iaload, 1) := by decide +kernel
theorem dX8_askedLength_35 : decode cX8_askedLength 35 = .ok (.invokevirtual 64, 3) := by decide +kernel
theorem dX8_askedLength_38 : decode cX8_askedLength 38 = .ok (.ifCond .eq 8, 3) := by decide +kernel
theorem dX8_askedLength_41 : decode cX8_askedLength 41 = .ok (.iload_n 2, 1) := by decide +kernel
theorem dX8_askedLength_42 : decode cX8_askedLength 42 = .ok (.iload_n 1, 1) := by decide +kernel
theorem dX8_askedLength_43 : decode cX8_askedLength 43 = .ok (.if_icmp .le 5, 3) := by decide +kernel
theorem dX8_askedLength_46 : decode cX8_askedLength 46 = .ok (.iconst (-1), 1) := by decide +kernel
theorem dX8_askedLength_47 : decode cX8_askedLength 47 = .ok (.ireturn, 1) := by decide +kernel
theorem dX8_askedLength_48 : decode cX8_askedLength 48 = .ok (.iinc 1 1, 3) := by decide +kernel
theorem dX8_askedLength_51 : decode cX8_askedLength 51 = .ok (.iinc 2 1, 3) := by decide +kernel
theorem dX8_askedLength_54 : decode cX8_askedLength 54 = .ok (.goto (-50), 3) := by decide +kernel
theorem dX8_askedLength_57 : decode cX8_askedLength 57 = .ok (.iload_n 1, 1) := by decide +kernel
theorem dX8_askedLength_58 : decode cX8_askedLength 58 = .ok (.ifCond .ne 7, 3) := by decide +kernel
theorem dX8_askedLength_61 : decode cX8_askedLength 61 = .ok (.iconst (-1), 1) := by decide +kernel
theorem dX8_askedLength_62 : decode cX8_askedLength 62 = .ok (.goto 4, 3) := by decide +kernel
theorem dX8_askedLength_65 : decode cX8_askedLength 65 = .ok (.iload_n 1, 1) := by decide +kernel
theorem dX8_askedLength_66 : decode cX8_askedLength 66 = .ok (.ireturn, 1) := by decide +kernel
theorem dX9_init_0 : decode cX9_init 0 = .ok (.aload_n 0, 1) := by decide +kernel
theorem dX9_init_1 : decode cX9_init 1 = .ok (.invokespecial 1, 3) := by decide +kernel
theorem dX9_init_4 : decode cX9_init 4 = .ok (.aload_n 0, 1) := by decide +kernel
theorem dX9_init_5 : decode cX9_init 5 = .ok (.sipush 874, 3) := by decide +kernel
theorem dX9_init_8 : decode cX9_init 8 = .ok (.newarray .int, 2) := by decide +kernel
theorem dX9_init_10 : decode cX9_init 10 = .ok (.putfield 7, 3) := by decide +kernel
theorem dX9_init_13 : decode cX9_init 13 = .ok (.aload_n 0, 1) := by decide +kernel
theorem dX9_init_14 : decode cX9_init 14 = .ok (.sipush 4370, 3) := by decide +kernel
theorem dX9_init_17 : decode cX9_init 17 = .ok (.newarray .int, 2) := by decide +kernel
theorem dX9_init_19 : decode cX9_init 19 = .ok (.putfield 13, 3) := by decide +kernel
theorem dX9_init_22 : decode cX9_init 22 = .ok (.aload_n 0, 1) := by decide +kernel
theorem dX9_init_23 : decode cX9_init 23 = .ok (.sipush 874, 3) := by decide +kernel
theorem dX9_init_26 : decode cX9_init 26 = .ok (.newarray .int, 2) := by decide +kernel
theorem dX9_init_28 : decode cX9_init 28 = .ok (.putfield 16, 3) := by decide +kernel
theorem dX9_init_31 : decode cX9_init 31 = .ok (.aload_n 0, 1) := by decide +kernel
theorem dX9_init_32 : decode cX9_init 32 = .ok (.sipush 140, 3) := by decide +kernel
theorem dX9_init_35 : decode cX9_init 35 = .ok (.newarray .int, 2) := by decide +kernel
theorem dX9_init_37 : decode cX9_init 37 = .ok (.putfield 19, 3) := by decide +kernel
theorem dX9_init_40 : decode cX9_init 40 = .ok (.aload_n 0, 1) := by decide +kernel
theorem dX9_init_41 : decode cX9_init 41 = .ok (.sipush 480, 3) := by decide +kernel
theorem dX9_init_44 : decode cX9_init 44 = .ok (.newarray .int, 2) := by decide +kernel
theorem dX9_init_46 : decode cX9_init 46 = .ok (.putfield 22, 3) := by decide +kernel
theorem dX9_init_49 : decode cX9_init 49 = .ok (.aload_n 0, 1) := by decide +kernel
theorem dX9_init_50 : decode cX9_init 50 = .ok (.iconst 5, 1) := by decide +kernel
theorem dX9_init_51 : decode cX9_init 51 = .ok (.newarray .int, 2) := by decide +kernel
theorem dX9_init_53 : decode cX9_init 53 = .ok (.putfield 25, 3) := by decide +kernel
theorem dX9_init_56 : decode cX9_init 56 = .ok (.aload_n 0, 1) := by decide +kernel
theorem dX9_init_57 : decode cX9_init 57 = .ok (.bipush 40, 2) := by decide +kernel
theorem dX9_init_59 : decode cX9_init 59 = .ok (.newarray .int, 2) := by decide +kernel
theorem dX9_init_61 : decode cX9_init 61 = .ok (.putfield 28, 3) := by decide +kernel
theorem dX9_init_64 : decode cX9_init 64 = .ok (.aload_n 0, 1) := by decide +kernel
theorem dX9_init_65 : decode cX9_init 65 = .ok (.bipush 40, 2) := by decide +kernel
theorem dX9_init_67 : decode cX9_init 67 = .ok (.newarray .int, 2) := by decide +kernel
theorem dX9_init_69 : decode cX9_init 69 = .ok (.putfield 31, 3) := by decide +kernel
theorem dX9_init_72 : decode cX9_init 72 = .ok (.aload_n 0, 1) := by decide +kernel
theorem dX9_init_73 : decode cX9_init 73 = .ok (.bipush 40, 2) := by decide +kernel
theorem dX9_init_75 : decode cX9_init 75 = .ok (.newarray .boolean, 2) := by decide +kernel
theorem dX9_init_77 : decode cX9_init 77 = .ok (.putfield 34, 3) := by decide +kernel
theorem dX9_init_80 : decode cX9_init 80 = .ok (.aload_n 0, 1) := by decide +kernel
theorem dX9_init_81 : decode cX9_init 81 = .ok (.bipush 40, 2) := by decide +kernel
theorem dX9_init_83 : decode cX9_init 83 = .ok (.newarray .int, 2) := by decide +kernel
theorem dX9_init_85 : decode cX9_init 85 = .ok (.putfield 38, 3) := by decide +kernel
theorem dX9_init_88 : decode cX9_init 88 = .ok (.aload_n 0, 1) := by decide +kernel
theorem dX9_init_89 : decode cX9_init 89 = .ok (.getfield 7, 3) := by decide +kernel
theorem dX9_init_92 : decode cX9_init 92 = .ok (.iconst 0, 1) := by decide +kernel
theorem dX9_init_93 : decode cX9_init 93 = .ok (.bipush 26, 2) := by decide +kernel
theorem dX9_init_95 : decode cX9_init 95 = .ok (.iastore, 1) := by decide +kernel
theorem dX9_init_96 : decode cX9_init 96 = .ok (.iconst 0, 1) := by decide +kernel
theorem dX9_init_97 : decode cX9_init 97 = .ok (.istore_n 1, 1) := by decide +kernel
theorem dX9_init_98 : decode cX9_init 98 = .ok (.iload_n 1, 1) := by decide +kernel
theorem dX9_init_99 : decode cX9_init 99 = .ok (.bipush 60, 2) := by decide +kernel
theorem dX9_init_101 : decode cX9_init 101 = .ok (.if_icmp .ge 18, 3) := by decide +kernel
theorem dX9_init_104 : decode cX9_init 104 = .ok (.aload_n 0, 1) := by decide +kernel
theorem dX9_init_105 : decode cX9_init 105 = .ok (.getfield 7, 3) := by decide +kernel
theorem dX9_init_108 : decode cX9_init 108 = .ok (.iconst 1, 1) := by decide +kernel
theorem dX9_init_109 : decode cX9_init 109 = .ok (.iload_n 1, 1) := by decide +kernel
theorem dX9_init_110 : decode cX9_init 110 = .ok (.iadd, 1) := by decide +kernel
theorem dX9_init_111 : decode cX9_init 111 = .ok (.iload_n 1, 1) := by decide +kernel
theorem dX9_init_112 : decode cX9_init 112 = .ok (.iastore, 1) := by decide +kernel
theorem dX9_init_113 : decode cX9_init 113 = .ok (.iinc 1 1, 3) := by decide +kernel
theorem dX9_init_116 : decode cX9_init 116 = .ok (.goto (-18), 3) := by decide +kernel
theorem dX9_init_119 : decode cX9_init 119 = .ok (.iconst 0, 1) := by decide +kernel
theorem dX9_init_120 : decode cX9_init 120 = .ok (.istore_n 1, 1) := by decide +kernel
theorem dX9_init_121 : decode cX9_init 121 = .ok (.iload_n 1, 1) := by decide +kernel
theorem dX9_init_122 : decode cX9_init 122 = .ok (.bipush 26, 2) := by decide +kernel
theorem dX9_init_124 : decode cX9_init 124 = .ok (.if_icmp .ge 22, 3) := by decide +kernel
theorem dX9_init_127 : decode cX9_init 127 = .ok (.aload_n 0, 1) := by decide +kernel
theorem dX9_init_128 : decode cX9_init 128 = .ok (.getfield 22, 3) := by decide +kernel
theorem dX9_init_131 : decode cX9_init 131 = .ok (.bipush 8, 2) := by decide +kernel
theorem dX9_init_133 : decode cX9_init 133 = .ok (.iload_n 1, 1) := by decide +kernel
theorem dX9_init_134 : decode cX9_init 134 = .ok (.imul, 1) := by decide +kernel
theorem dX9_init_135 : decode cX9_init 135 = .ok (.bipush 97, 2) := by decide +kernel
theorem dX9_init_137 : decode cX9_init 137 = .ok (.iload_n 1, 1) := by decide +kernel
theorem dX9_init_138 : decode cX9_init 138 = .ok (.iadd, 1) := by decide +kernel
theorem dX9_init_139 : decode cX9_init 139 = .ok (.iastore, 1) := by decide +kernel
theorem dX9_init_140 : decode cX9_init 140 = .ok (.iinc 1 1, 3) := by decide +kernel
theorem dX9_init_143 : decode cX9_init 143 = .ok (.goto (-22), 3) := by decide +kernel
theorem dX9_init_146 : decode cX9_init 146 = .ok (.return_, 1) := by decide +kernel
theorem dX9_in_0 : decode cX9_in 0 = .ok (.iload_n 0, 1) := by decide +kernel
theorem dX9_in_1 : decode cX9_in 1 = .ok (.iload_n 1, 1) := by decide +kernel
theorem dX9_in_2 : decode cX9_in 2 = .ok (.if_icmp .lt 12, 3) := by decide +kernel
theorem dX9_in_5 : decode cX9_in 5 = .ok (.iload_n 0, 1) := by decide +kernel
theorem dX9_in_6 : decode cX9_in 6 = .ok (.iload_n 2, 1) := by decide +kernel
theorem dX9_in_7 : decode cX9_in 7 = .ok (.if_icmp .gt 7, 3) := by decide +kernel
theorem dX9_in_10 : decode cX9_in 10 = .ok (.iconst 1, 1) := by decide +kernel
theorem dX9_in_11 : decode cX9_in 11 = .ok (.goto 4, 3) := by decide +kernel
theorem dX9_in_14 : decode cX9_in 14 = .ok (.iconst 0, 1) := by decide +kernel
theorem dX9_in_15 : decode cX9_in 15 = .ok (.ireturn, 1) := by decide +kernel
theorem dX9_saves_0 : decode cX9_saves 0 = .ok (.aload_n 0, 1) := by decide +kernel
theorem dX9_saves_1 : decode cX9_saves 1 = .ok (.getfield 41, 3) := by decide +kernel
theorem dX9_saves_4 : decode cX9_saves 4 = .ok (.iconst 5, 1) := by decide +kernel
theorem dX9_saves_5 : decode cX9_saves 5 = .ok (.if_icmp .ne 44, 3) := by decide +kernel
theorem dX9_saves_8 : decode cX9_saves 8 = .ok (.iconst 0, 1) := by decide +kernel
theorem dX9_saves_9 : decode cX9_saves 9 = .ok (.istore_n 2, 1) := by decide +kernel
theorem dX9_saves_10 : decode cX9_saves 10 = .ok (.iload_n 2, 1) := by decide +kernel
theorem dX9_saves_11 : decode cX9_saves 11 = .ok (.sipush 3496, 3) := by decide +kernel
theorem dX9_saves_14 : decode cX9_saves 14 = .ok (.if_icmp .ge 25, 3) := by decide +kernel
theorem dX9_saves_17 : decode cX9_saves 17 = .ok (.aload_n 0, 1) := by decide +kernel
theorem dX9_saves_18 : decode cX9_saves 18 = .ok (.getfield 13, 3) := by decide +kernel
theorem dX9_saves_21 : decode cX9_saves 21 = .ok (.iload_n 2, 1) := by decide +kernel
theorem dX9_saves_22 : decode cX9_saves 22 = .ok (.aload_n 0, 1) := by decide +kernel
theorem dX9_saves_23 : decode cX9_saves 23 = .ok (.getfield 13, 3) := by decide +kernel
theorem dX9_saves_26 : decode cX9_saves 26 = .ok (.iload_n 2, 1) := by decide +kernel
theorem dX9_saves_27 : decode cX9_saves 27 = .ok (.sipush 874, 3) := by decide +kernel
theorem dX9_saves_30 : decode cX9_saves 30 = .ok (.iadd, 1) := by decide +kernel
theorem dX9_saves_31 : decode cX9_saves 31 = .ok (.iaload, 1) := by decide +kernel
theorem dX9_saves_32 : decode cX9_saves 32 = .ok (.iastore, 1) := by decide +kernel
theorem dX9_saves_33 : decode cX9_saves 33 = .ok (.iinc 2 1, 3) := by decide +kernel
theorem dX9_saves_36 : decode cX9_saves 36 = .ok (.goto (-26), 3) := by decide +kernel
theorem dX9_saves_39 : decode cX9_saves 39 = .ok (.aload_n 0, 1) := by decide +kernel
theorem dX9_saves_40 : decode cX9_saves 40 = .ok (.dup, 1) := by decide +kernel
theorem dX9_saves_41 : decode cX9_saves 41 = .ok (.getfield 41, 3) := by decide +kernel
theorem dX9_saves_44 : decode cX9_saves 44 = .ok (.iconst 1, 1) := by decide +kernel
theorem dX9_saves_45 : decode cX9_saves 45 = .ok (.isub, 1) := by decide +kernel
theorem dX9_saves_46 : decode cX9_saves 46 = .ok (.putfield 41, 3) := by decide +kernel
theorem dX9_saves_49 : decode cX9_saves 49 = .ok (.iconst 0, 1) := by decide +kernel
theorem dX9_saves_50 : decode cX9_saves 50 = .ok (.istore_n 2, 1) := by decide +kernel
theorem dX9_saves_51 : decode cX9_saves 51 = .ok (.iload_n 2, 1) := by decide +kernel
theorem dX9_saves_52 : decode cX9_saves 52 = .ok (.sipush 874, 3) := by decide +kernel
theorem dX9_saves_55 : decode cX9_saves 55 = .ok (.if_icmp .ge 27, 3) := by decide +kernel
theorem dX9_saves_58 : decode cX9_saves 58 = .ok (.aload_n 0, 1) := by decide +kernel
theorem dX9_saves_59 : decode cX9_saves 59 = .ok (.getfield 13, 3) := by decide +kernel
theorem dX9_saves_62 : decode cX9_saves 62 = .ok (.sipush 874, 3) := by decide +kernel
theorem dX9_saves_65 : decode cX9_saves 65 = .ok (.aload_n 0, 1) := by decide +kernel
theorem dX9_saves_66 : decode cX9_saves 66 = .ok (.getfield 41, 3) := by decide +kernel
theorem dX9_saves_69 : decode cX9_saves 69 = .ok (.imul, 1) := by decide +kernel
theorem dX9_saves_70 : decode cX9_saves 70 = .ok (.iload_n 2, 1) := by decide +kernel
theorem dX9_saves_71 : decode cX9_saves 71 = .ok (.iadd, 1) := by decide +kernel
theorem dX9_saves_72 : decode cX9_saves 72 = .ok (.aload_n 1, 1) := by decide +kernel
theorem dX9_saves_73 : decode cX9_saves 73 = .ok (.iload_n 2, 1) := by decide +kernel
theorem dX9_saves_74 : decode cX9_saves 74 = .ok (.iaload, 1) := by decide +kernel
theorem dX9_saves_75 : decode cX9_saves 75 = .ok (.iastore, 1) := by decide +kernel
theorem dX9_saves_76 : decode cX9_saves 76 = .ok (.iinc 2 1, 3) := by decide +kernel
theorem dX9_saves_79 : decode cX9_saves 79 = .ok (.goto (-28), 3) := by decide +kernel
theorem dX9_saves_82 : decode cX9_saves 82 = .ok (.aload_n 0, 1) := by decide +kernel
theorem dX9_saves_83 : decode cX9_saves 83 = .ok (.dup, 1) := by decide +kernel
theorem dX9_saves_84 : decode cX9_saves 84 = .ok (.getfield 41, 3) := by decide +kernel
theorem dX9_saves_87 : decode cX9_saves 87 = .ok (.iconst 1, 1) := by decide +kernel
theorem dX9_saves_88 : decode cX9_saves 88 = .ok (.iadd, 1) := by decide +kernel
theorem dX9_saves_89 : decode cX9_saves 89 = .ok (.putfield 41, 3) := by decide +kernel
theorem dX9_saves_92 : decode cX9_saves 92 = .ok (.return_, 1) := by decide +kernel
theorem dX9_undo_0 : decode cX9_undo 0 = .ok (.aload_n 0, 1) := by decide +kernel
theorem dX9_undo_1 : decode cX9_undo 1 = .ok (.getfield 41, 3) := by decide +kernel
theorem dX9_undo_4 : decode cX9_undo 4 = .ok (.ifCond .ne 6, 3) := by decide +kernel
theorem dX9_undo_7 : decode cX9_undo 7 = .ok (.bipush (-2), 2) := by decide +kernel
theorem dX9_undo_9 : decode cX9_undo 9 = .ok (.ireturn, 1) := by decide +kernel
theorem dX9_undo_10 : decode cX9_undo 10 = .ok (.aload_n 0, 1) := by decide +kernel
theorem dX9_undo_11 : decode cX9_undo 11 = .ok (.dup, 1) := by decide +kernel
theorem dX9_undo_12 : decode cX9_undo 12 = .ok (.getfield 41, 3) := by decide +kernel
theorem dX9_undo_15 : decode cX9_undo 15 = .ok (.iconst 1, 1) := by decide +kernel
theorem dX9_undo_16 : decode cX9_undo 16 = .ok (.isub, 1) := by decide +kernel
theorem dX9_undo_17 : decode cX9_undo 17 = .ok (.putfield 41, 3) := by decide +kernel
theorem dX9_undo_20 : decode cX9_undo 20 = .ok (.iconst 0, 1) := by decide +kernel
theorem dX9_undo_21 : decode cX9_undo 21 = .ok (.istore_n 1, 1) := by decide +kernel
theorem dX9_undo_22 : decode cX9_undo 22 = .ok (.iload_n 1, 1) := by decide +kernel
theorem dX9_undo_23 : decode cX9_undo 23 = .ok (.sipush 874, 3) := by decide +kernel
theorem dX9_undo_26 : decode cX9_undo 26 = .ok (.if_icmp .ge 30, 3) := by decide +kernel
theorem dX9_undo_29 : decode cX9_undo 29 = .ok (.aload_n 0, 1) := by decide +kernel
theorem dX9_undo_30 : decode cX9_undo 30 = .ok (.getfield 7, 3) := by decide +kernel
theorem dX9_undo_33 : decode cX9_undo 33 = .ok (.iload_n 1, 1) := by decide +kernel
theorem dX9_undo_34 : decode cX9_undo 34 = .ok (.aload_n 0, 1) := by decide +kernel
theorem dX9_undo_35 : decode cX9_undo 35 = .ok (.getfield 13, 3) := by decide +kernel
theorem dX9_undo_38 : decode cX9_undo 38 = .ok (.sipush 874, 3) := by decide +kernel
theorem dX9_undo_41 : decode cX9_undo 41 = .ok (.aload_n 0, 1) := by decide +kernel
theorem dX9_undo_42 : decode cX9_undo 42 = .ok (.getfield 41, 3) := by decide +kernel
theorem dX9_undo_45 : decode cX9_undo 45 = .ok (.imul, 1) := by decide +kernel
theorem dX9_undo_46 : decode cX9_undo 46 = .ok (.iload_n 1, 1) := by decide +kernel
theorem dX9_undo_47 : decode cX9_undo 47 = .ok (.iadd, 1) := by decide +kernel
theorem dX9_undo_48 : decode cX9_undo 48 = .ok (.iaload, 1) := by decide +kernel
theorem dX9_undo_49 : decode cX9_undo 49 = .ok (.iastore, 1) := by decide +kernel
theorem dX9_undo_50 : decode cX9_undo 50 = .ok (.iinc 1 1, 3) := by decide +kernel
theorem dX9_undo_53 : decode cX9_undo 53 = .ok (.goto (-31), 3) := by decide +kernel
theorem dX9_undo_56 : decode cX9_undo 56 = .ok (.aload_n 0, 1) := by decide +kernel
theorem dX9_undo_57 : decode cX9_undo 57 = .ok (.getfield 41, 3) := by decide +kernel
theorem dX9_undo_60 : decode cX9_undo 60 = .ok (.ireturn, 1) := by decide +kernel
theorem dX9_isWord_0 : decode cX9_isWord 0 = .ok (.iload_n 1, 1) := by decide +kernel
theorem dX9_isWord_1 : decode cX9_isWord 1 = .ok (.iconst 0, 1) := by decide +kernel
theorem dX9_isWord_2 : decode cX9_isWord 2 = .ok (.aload_n 0, 1) := by decide +kernel
theorem dX9_isWord_3 : decode cX9_isWord 3 = .ok (.getfield 7, 3) := by decide +kernel
theorem dX9_isWord_6 : decode cX9_isWord 6 = .ok (.iconst 0, 1) := by decide +kernel
theorem dX9_isWord_7 : decode cX9_isWord 7 = .ok (.iaload, 1) := by decide +kernel
theorem dX9_isWord_8 : decode cX9_isWord 8 = .ok (.iconst 1, 1) := by decide +kernel
theorem dX9_isWord_9 : decode cX9_isWord 9 = .ok (.isub, 1) := by decide +kernel
theorem dX9_isWord_10 : decode cX9_isWord 10 = .ok (.invokestatic 45, 3) := by decide +kernel
theorem dX9_isWord_13 : decode cX9_isWord 13 = .ok (.ireturn, 1) := by decide +kernel
theorem dX9_isChapter_0 : decode cX9_isChapter 0 = .ok (.iload_n 0, 1) := by decide +kernel
theorem dX9_isChapter_1 : decode cX9_isChapter 1 = .ok (.iconst 0, 1) := by decide +kernel
theorem dX9_isChapter_2 : decode cX9_isChapter 2 = .ok (.iconst 5, 1) := by decide +kernel
theorem dX9_isChapter_3 : decode cX9_isChapter 3 = .ok (.invokestatic 45, 3) := by decide +kernel
theorem dX9_isChapter_6 : decode cX9_isChapter 6 = .ok (.ireturn, 1) := by decide +kernel
theorem dX9_size_0 : decode cX9_size 0 = .ok (.aload_n 0, 1) := by decide +kernel
theorem dX9_size_1 : decode cX9_size 1 = .ok (.getfield 7, 3) := by decide +kernel
theorem dX9_size_4 : decode cX9_size 4 = .ok (.bipush 61, 2) := by decide +kernel
theorem dX9_size_6 : decode cX9_size 6 = .ok (.bipush 41, 2) := by decide +kernel
theorem dX9_size_8 : decode cX9_size 8 = .ok (.iload_n 1, 1) := by decide +kernel
theorem dX9_size_9 : decode cX9_size 9 = .ok (.imul, 1) := by decide +kernel
theorem dX9_size_10 : decode cX9_size 10 = .ok (.iadd, 1) := by decide +kernel
theorem dX9_size_11 : decode cX9_size 11 = .ok (.iaload, 1) := by decide +kernel
theorem dX9_size_12 : decode cX9_size 12 = .ok (.ireturn, 1) := by decide +kernel
theorem dX9_at_0 : decode cX9_at 0 = .ok (.bipush 61, 2) := by decide +kernel
theorem dX9_at_2 : decode cX9_at 2 = .ok (.bipush 41, 2) := by decide +kernel
theorem dX9_at_4 : decode cX9_at 4 = .ok (.iload_n 0, 1) := by decide +kernel
theorem dX9_at_5 : decode cX9_at 5 = .ok (.imul, 1) := by decide +kernel
theorem dX9_at_6 : decode cX9_at 6 = .ok (.iadd, 1) := by decide +kernel
theorem dX9_at_7 : decode cX9_at 7 = .ok (.iconst 1, 1) := by decide +kernel
theorem dX9_at_8 : decode cX9_at 8 = .ok (.iadd, 1) := by decide +kernel
theorem dX9_at_9 : decode cX9_at 9 = .ok (.iload_n 1, 1) := by decide +kernel
theorem dX9_at_10 : decode cX9_at 10 = .ok (.iadd, 1) := by decide +kernel
theorem dX9_at_11 : decode cX9_at 11 = .ok (.ireturn, 1) := by decide +kernel
theorem dX9_baseAt_0 : decode cX9_baseAt 0 = .ok (.aload_n 0, 1) := by decide +kernel
theorem dX9_baseAt_1 : decode cX9_baseAt 1 = .ok (.getfield 7, 3) := by decide +kernel
theorem dX9_baseAt_4 : decode cX9_baseAt 4 = .ok (.iconst 1, 1) := by decide +kernel
theorem dX9_baseAt_5 : decode cX9_baseAt 5 = .ok (.aload_n 0, 1) := by decide +kernel
theorem dX9_baseAt_6 : decode cX9_baseAt 6 = .ok (.getfield 7, 3) := by decide +kernel
theorem dX9_baseAt_9 : decode cX9_baseAt 9 = .ok (.iload_n 1, 1) := by decide +kernel
theorem dX9_baseAt_10 : decode cX9_baseAt 10 = .ok (.iload_n 2, 1) := by decide +kernel
theorem dX9_baseAt_11 : decode cX9_baseAt 11 = .ok (.invokestatic 49, 3) := by decide +kernel
theorem dX9_baseAt_14 : decode cX9_baseAt 14 = .ok (.iaload, 1) := by decide +kernel
theorem dX9_baseAt_15 : decode cX9_baseAt 15 = .ok (.iadd, 1) := by decide +kernel
theorem dX9_baseAt_16 : decode cX9_baseAt 16 = .ok (.iaload, 1) := by decide +kernel
theorem dX9_baseAt_17 : decode cX9_baseAt 17 = .ok (.ireturn, 1) := by decide +kernel
theorem dX9_insert_0 : decode cX9_insert 0 = .ok (.iload_n 1, 1) := by decide +kernel
theorem dX9_insert_1 : decode cX9_insert 1 = .ok (.invokestatic 53, 3) := by decide +kernel
theorem dX9_insert_4 : decode cX9_insert 4 = .ok (.ifCond .eq 24, 3) := by decide +kernel
theorem dX9_insert_7 : decode cX9_insert 7 = .ok (.iload_n 2, 1) := by decide +kernel
theorem dX9_insert_8 : decode cX9_insert 8 = .ok (.iconst 0, 1) := by decide +kernel
theorem dX9_insert_9 : decode cX9_insert 9 = .ok (.aload_n 0, 1) := by decide +kernel
theorem dX9_insert_10 : decode cX9_insert 10 = .ok (.iload_n 1, 1) := by decide +kernel
theorem dX9_insert_11 : decode cX9_insert 11 = .ok (.invokevirtual 57, 3) := by decide +kernel
theorem dX9_insert_14 : decode cX9_insert 14 = .ok (.invokestatic 45, 3) := by decide +kernel
theorem dX9_insert_17 : decode cX9_insert 17 = .ok (.ifCond .eq 11, 3) := by decide +kernel
theorem dX9_insert_20 : decode cX9_insert 20 = .ok (.aload_n 0, 1) := by decide +kernel
theorem dX9_insert_21 : decode cX9_insert 21 = .ok (.iload_n 3, 1) := by decide +kernel
theorem dX9_insert_22 : decode cX9_insert 22 = .ok (.invokevirtual 61, 3) := by decide +kernel
theorem dX9_insert_25 : decode cX9_insert 25 = .ok (.ifCond .ne 5, 3) := by decide +kernel
theorem dX9_insert_28 : decode cX9_insert 28 = .ok (.iconst (-1), 1) := by decide +kernel
theorem dX9_insert_29 : decode cX9_insert 29 = .ok (.ireturn, 1) := by decide +kernel
theorem dX9_insert_30 : decode cX9_insert 30 = .ok (.aload_n 0, 1) := by decide +kernel
theorem dX9_insert_31 : decode cX9_insert 31 = .ok (.iload_n 1, 1) := by decide +kernel
theorem dX9_insert_32 : decode cX9_insert 32 = .ok (.invokevirtual 57, 3) := by decide +kernel
theorem dX9_insert_35 : decode cX9_insert 35 = .ok (.bipush 40, 2) := by decide +kernel
theorem dX9_insert_37 : decode cX9_insert 37 = .ok (.if_icmp .ne 6, 3) := by decide +kernel
theorem dX9_insert_40 : decode cX9_insert 40 = .ok (.bipush (-3), 2) := by decide +kernel
theorem dX9_insert_42 : decode cX9_insert 42 = .ok (.ireturn, 1) := by decide +kernel
theorem dX9_insert_43 : decode cX9_insert 43 = .ok (.aload_n 0, 1) := by decide +kernel
theorem dX9_insert_44 : decode cX9_insert 44 = .ok (.aload_n 0, 1) := by decide +kernel
theorem dX9_insert_45 : decode cX9_insert 45 = .ok (.getfield 7, 3) := by decide +kernel
theorem dX9_insert_48 : decode cX9_insert 48 = .ok (.invokevirtual 64, 3) := by decide +kernel
theorem dX9_insert_51 : decode cX9_insert 51 = .ok (.aload_n 0, 1) := by decide +kernel
theorem dX9_insert_52 : decode cX9_insert 52 = .ok (.iload_n 1, 1) := by decide +kernel
theorem dX9_insert_53 : decode cX9_insert 53 = .ok (.invokevirtual 57, 3) := by decide +kernel
theorem dX9_insert_56 : decode cX9_insert 56 = .ok (.istore 4, 2) := by decide +kernel
theorem dX9_insert_58 : decode cX9_insert 58 = .ok (.iload 4, 2) := by decide +kernel
theorem dX9_insert_60 : decode cX9_insert 60 = .ok (.iload_n 2, 1) := by decide +kernel
theorem dX9_insert_61 : decode cX9_insert 61 = .ok (.if_icmp .le 33, 3) := by decide +kernel
theorem dX9_insert_64 : decode cX9_insert 64 = .ok (.aload_n 0, 1) := by decide +kernel
theorem dX9_insert_65 : decode cX9_insert 65 = .ok (.getfield 7, 3) := by decide +kernel
theorem dX9_insert_68 : decode cX9_insert 68 = .ok (.iload_n 1, 1) := by decide +kernel
theorem dX9_insert_69 : decode cX9_insert 69 = .ok (.iload 4, 2) := by decide +kernel
theorem dX9_insert_71 : decode cX9_insert 71 = .ok (.invokestatic 49, 3) := by decide +kernel
theorem dX9_insert_74 : decode cX9_insert 74 = .ok (.aload_n 0, 1) := by decide +kernel
theorem dX9_insert_75 : decode cX9_insert 75 = .ok (.getfield 7, 3) := by decide +kernel
theorem dX9_insert_78 : decode cX9_insert 78 = .ok (.iload_n 1, 1) := by decide +kernel
theorem dX9_insert_79 : decode cX9_insert 79 = .ok (.iload 4, 2) := by decide +kernel
theorem dX9_insert_81 : decode cX9_insert 81 = .ok (.iconst 1, 1) := by decide +kernel
theorem dX9_insert_82 : decode cX9_insert 82 = .ok (.isub, 1) := by decide +kernel
theorem dX9_insert_83 : decode cX9_insert 83 = .ok (.invokestatic 49, 3) := by decide +kernel
theorem dX9_insert_86 : decode cX9_insert 86 = .ok (.iaload, 1) := by decide +kernel
theorem dX9_insert_87 : decode cX9_insert 87 = .ok (.iastore, 1) := by decide +kernel
theorem dX9_insert_88 : decode cX9_insert 88 = .ok (.iinc 4 (-1), 3) := by decide +kernel
theorem dX9_insert_91 : decode cX9_insert 91 = .ok (.goto (-33), 3) := by decide +kernel
theorem dX9_insert_94 : decode cX9_insert 94 = .ok (.aload_n 0, 1) := by decide +kernel
theorem dX9_insert_95 : decode cX9_insert 95 = .ok (.getfield 7, 3) := by decide +kernel
theorem dX9_insert_98 : decode cX9_insert 98 = .ok (.iload_n 1, 1) := by decide +kernel
theorem dX9_insert_99 : decode cX9_insert 99 = .ok (.iload_n 2, 1) := by decide +kernel
theorem dX9_insert_100 : decode cX9_insert 100 = .ok (.invokestatic 49, 3) := by decide +kernel
theorem dX9_insert_103 : decode cX9_insert 103 = .ok (.iload_n 3, 1) := by decide +kernel
theorem dX9_insert_104 : decode cX9_insert 104 = .ok (.iastore, 1) := by decide +kernel
theorem dX9_insert_105 : decode cX9_insert 105 = .ok (.aload_n 0, 1) := by decide +kernel
theorem dX9_insert_106 : decode cX9_insert 106 = .ok (.getfield 7, 3) := by decide +kernel
theorem dX9_insert_109 : decode cX9_insert 109 = .ok (.bipush 61, 2) := by decide +kernel
theorem dX9_insert_111 : decode cX9_insert 111 = .ok (.bipush 41, 2) := by decide +kernel
theorem dX9_insert_113 : decode cX9_insert 113 = .ok (.iload_n 1, 1) := by decide +kernel
theorem dX9_insert_114 : decode cX9_insert 114 = .ok (.imul, 1) := by decide +kernel
theorem dX9_insert_115 : decode cX9_insert 115 = .ok (.iadd, 1) := by decide +kernel
theorem dX9_insert_116 : decode cX9_insert 116 = .ok (.dup2, 1) := by decide +kernel
theorem dX9_insert_117 : decode cX9_insert 117 = .ok (.iaload, 1) := by decide +kernel
theorem dX9_insert_118 : decode cX9_insert 118 = .ok (.iconst 1, 1) := by decide +kernel
theorem dX9_insert_119 : decode cX9_insert 119 = .ok (.iadd, 1) := by decide +kernel
theorem dX9_insert_120 : decode cX9_insert 120 = .ok (.iastore, 1) := by decide +kernel
theorem dX9_insert_121 : decode cX9_insert 121 = .ok (.aload_n 0, 1) := by decide +kernel
theorem dX9_insert_122 : decode cX9_insert 122 = .ok (.iload_n 1, 1) := by decide +kernel
theorem dX9_insert_123 : decode cX9_insert 123 = .ok (.invokevirtual 57, 3) := by decide +kernel
theorem dX9_insert_126 : decode cX9_insert 126 = .ok (.ireturn, 1) := by decide +kernel
theorem dX9_delete_0 : decode cX9_delete 0 = .ok (.iload_n 1, 1) := by decide +kernel
theorem dX9_delete_1 : decode cX9_delete 1 = .ok (.invokestatic 53, 3) := by decide +kernel
theorem dX9_delete_4 : decode cX9_delete 4 = .ok (.ifCond .eq 33, 3) := by decide +kernel
theorem dX9_delete_7 : decode cX9_delete 7 = .ok (.iload_n 2, 1) := by decide +kernel
theorem dX9_delete_8 : decode cX9_delete 8 = .ok (.iconst 0, 1) := by decide +kernel
theorem dX9_delete_9 : decode cX9_delete 9 = .ok (.aload_n 0, 1) := by decide +kernel
theorem dX9_delete_10 : decode cX9_delete 10 = .ok (.iload_n 1, 1) := by decide +kernel
theorem dX9_delete_11 : decode cX9_delete 11 = .ok (.invokevirtual 57, 3) := by decide +kernel
theorem dX9_delete_14 : decode cX9_delete 14 = .ok (.iconst 1, 1) := by decide +kernel
theorem dX9_delete_15 : decode cX9_delete 15 = .ok (.isub, 1) := by decide +kernel
theorem dX9_delete_16 : decode cX9_delete 16 = .ok (.invokestatic 45, 3) := by decide +kernel
theorem dX9_delete_19 : decode cX9_delete 19 = .ok (.ifCond .eq 18, 3) := by decide +kernel
theorem dX9_delete_22 : decode cX9_delete 22 = .ok (.iload_n 3, 1) := by decide +kernel
theorem dX9_delete_23 : decode cX9_delete 23 = .ok (.iload_n 2, 1) := by decide +kernel
theorem dX9_delete_24 : decode cX9_delete 24 = .ok (.aload_n 0, 1) := by decide +kernel
theorem dX9_delete_25 : decode cX9_delete 25 = .ok (.iload_n 1, 1) := by decide +kernel
theorem dX9_delete_26 : decode cX9_delete 26 = .ok (.invokevirtual 57, 3) := by decide +kernel
theorem dX9_delete_29 : decode cX9_delete 29 = .ok (.iconst 1, 1) := by decide +kernel
theorem dX9_delete_30 : decode cX9_delete 30 = .ok (.isub, 1) := by decide +kernel
theorem dX9_delete_31 : decode cX9_delete 31 = .ok (.invokestatic 45, 3) := by decide +kernel
theorem dX9_delete_34 : decode cX9_delete 34 = .ok (.ifCond .ne 5, 3) := by decide +kernel
theorem dX9_delete_37 : decode cX9_delete 37 = .ok (.iconst (-1), 1) := by decide +kernel
theorem dX9_delete_38 : decode cX9_delete 38 = .ok (.ireturn, 1) := by decide +kernel
theorem dX9_delete_39 : decode cX9_delete 39 = .ok (.aload_n 0, 1) := by decide +kernel
theorem dX9_delete_40 : decode cX9_delete 40 = .ok (.aload_n 0, 1) := by decide +kernel
theorem dX9_delete_41 : decode cX9_delete 41 = .ok (.getfield 7, 3) := by decide +kernel
theorem dX9_delete_44 : decode cX9_delete 44 = .ok (.invokevirtual 64, 3) := by decide +kernel
theorem dX9_delete_47 : decode cX9_delete 47 = .ok (.iload_n 3, 1) := by decide +kernel
theorem dX9_delete_48 : decode cX9_delete 48 = .ok (.iload_n 2, 1) := by decide +kernel
theorem dX9_delete_49 : decode cX9_delete 49 = .ok (.isub, 1) := by decide +kernel
theorem dX9_delete_50 : decode cX9_delete 50 = .ok (.iconst 1, 1) := by decide +kernel
theorem dX9_delete_51 : decode cX9_delete 51 = .ok (.iadd, 1) := by decide +kernel
theorem dX9_delete_52 : decode cX9_delete 52 = .ok (.istore 4, 2) := by decide +kernel
theorem dX9_delete_54 : decode cX9_delete 54 = .ok (.iload_n 2, 1) := by decide +kernel
theorem dX9_delete_55 : decode cX9_delete 55 = .ok (.istore 5, 2) := by decide +kernel
theorem dX9_delete_57 : decode cX9_delete 57 = .ok (.iload 5, 2) := by decide +kernel
theorem dX9_delete_59 : decode cX9_delete 59 = .ok (.iload 4, 2) := by decide +kernel
theorem dX9_delete_61 : decode cX9_delete 61 = .ok (.iadd, 1) := by decide +kernel
theorem dX9_delete_62 : decode cX9_delete 62 = .ok (.aload_n 0, 1) := by decide +kernel
theorem dX9_delete_63 : decode cX9_delete 63 = .ok (.iload_n 1, 1) := by decide +kernel
theorem dX9_delete_64 : decode cX9_delete 64 = .ok (.invokevirtual 57, 3) := by decide +kernel
theorem dX9_delete_67 : decode cX9_delete 67 = .ok (.if_icmp .ge 34, 3) := by decide +kernel
theorem dX9_delete_70 : decode cX9_delete 70 = .ok (.aload_n 0, 1) := by decide +kernel
theorem dX9_delete_71 : decode cX9_delete 71 = .ok (.getfield 7, 3) := by decide +kernel
theorem dX9_delete_74 : decode cX9_delete 74 = .ok (.iload_n 1, 1) := by decide +kernel
theorem dX9_delete_75 : decode cX9_delete 75 = .ok (.iload 5, 2) := by decide +kernel
theorem dX9_delete_77 : decode cX9_delete 77 = .ok (.invokestatic 49, 3) := by decide +kernel
theorem dX9_delete_80 : decode cX9_delete 80 = .ok (.aload_n 0, 1) := by decide +kernel
theorem dX9_delete_81 : decode cX9_delete 81 = .ok (.getfield 7, 3) := by decide +kernel
theorem dX9_delete_84 : decode cX9_delete 84 = .ok (.iload_n 1, 1) := by decide +kernel
theorem dX9_delete_85 : decode cX9_delete 85 = .ok (.iload 5, 2) := by decide +kernel
theorem dX9_delete_87 : decode cX9_delete 87 = .ok (.iload 4, 2) := by decide +kernel
theorem dX9_delete_89 : decode cX9_delete 89 = .ok (.iadd, 1) := by decide +kernel
theorem dX9_delete_90 : decode cX9_delete 90 = .ok (.invokestatic 49, 3) := by decide +kernel
theorem dX9_delete_93 : decode cX9_delete 93 = .ok (.iaload, 1) := by decide +kernel
theorem dX9_delete_94 : decode cX9_delete 94 = .ok (.iastore, 1) := by decide +kernel
theorem dX9_delete_95 : decode cX9_delete 95 = .ok (.iinc 5 1, 3) := by decide +kernel
theorem dX9_delete_98 : decode cX9_delete 98 = .ok (.goto (-41), 3) := by decide +kernel
theorem dX9_delete_101 : decode cX9_delete 101 = .ok (.aload_n 0, 1) := by decide +kernel
theorem dX9_delete_102 : decode cX9_delete 102 = .ok (.getfield 7, 3) := by decide +kernel
theorem dX9_delete_105 : decode cX9_delete 105 = .ok (.bipush 61, 2) := by decide +kernel
theorem dX9_delete_107 : decode cX9_delete 107 = .ok (.bipush 41, 2) := by decide +kernel
theorem dX9_delete_109 : decode cX9_delete 109 = .ok (.iload_n 1, 1) := by decide +kernel
theorem dX9_delete_110 : decode cX9_delete 110 = .ok (.imul, 1) := by decide +kernel
theorem dX9_delete_111 : decode cX9_delete 111 = .ok (.iadd, 1) := by decide +kernel
theorem dX9_delete_112 : decode cX9_delete 112 = .ok (.dup2, 1) := by decide +kernel
theorem dX9_delete_113 : decode cX9_delete 113 = .ok (.iaload, 1) := by decide +kernel
theorem dX9_delete_114 : decode cX9_delete 114 = .ok (.iload 4, 2) := by decide +kernel
theorem dX9_delete_116 : decode cX9_delete 116 = .ok (.isub, 1) := by decide +kernel
theorem dX9_delete_117 : decode cX9_delete 117 = .ok (.iastore, 1) := by decide +kernel
theorem dX9_delete_118 : decode cX9_delete 118 = .ok (.aload_n 0, 1) := by decide +kernel
theorem dX9_delete_119 : decode cX9_delete 119 = .ok (.iload_n 1, 1) := by decide +kernel
theorem dX9_delete_120 : decode cX9_delete 120 = .ok (.invokevirtual 57, 3) := by decide +kernel
theorem dX9_delete_123 : decode cX9_delete 123 = .ok (.ireturn, 1) := by decide +kernel
theorem dX9_replace_0 : decode cX9_replace 0 = .ok (.aload_n 0, 1) := by decide +kernel
theorem dX9_replace_1 : decode cX9_replace 1 = .ok (.iload_n 1, 1) := by decide +kernel
theorem dX9_replace_2 : decode cX9_replace 2 = .ok (.invokevirtual 61, 3) := by decide +kernel
theorem dX9_replace_5 : decode cX9_replace 5 = .ok (.ifCond .eq 16, 3) := by decide +kernel
theorem dX9_replace_8 : decode cX9_replace 8 = .ok (.aload_n 0, 1) := by decide +kernel
theorem dX9_replace_9 : decode cX9_replace 9 = .ok (.iload_n 2, 1) := by decide +kernel
theorem dX9_replace_10 : decode cX9_replace 10 = .ok (.invokevirtual 61, 3) := by decide +kernel
theorem dX9_replace_13 : decode cX9_replace 13 = .ok (.ifCond .eq 8, 3) := by decide +kernel
theorem dX9_replace_16 : decode cX9_replace 16 = .ok (.iload_n 1, 1) := by decide +kernel
theorem dX9_replace_17 : decode cX9_replace 17 = .ok (.iload_n 2, 1) := by decide +kernel
theorem dX9_replace_18 : decode cX9_replace 18 = .ok (.if_icmp .ne 5, 3) := by decide +kernel
theorem dX9_replace_21 : decode cX9_replace 21 = .ok (.iconst (-1), 1) := by decide +kernel
theorem dX9_replace_22 : decode cX9_replace 22 = .ok (.ireturn, 1) := by decide +kernel
theorem dX9_replace_23 : decode cX9_replace 23 = .ok (.aload_n 0, 1) := by decide +kernel
theorem dX9_replace_24 : decode cX9_replace 24 = .ok (.aload_n 0, 1) := by decide +kernel
theorem dX9_replace_25 : decode cX9_replace 25 = .ok (.getfield 7, 3) := by decide +kernel
theorem dX9_replace_28 : decode cX9_replace 28 = .ok (.invokevirtual 64, 3) := by decide +kernel
theorem dX9_replace_31 : decode cX9_replace 31 = .ok (.iconst 0, 1) := by decide +kernel
theorem dX9_replace_32 : decode cX9_replace 32 = .ok (.istore_n 3, 1) := by decide +kernel
theorem dX9_replace_33 : decode cX9_replace 33 = .ok (.iconst 0, 1) := by decide +kernel
theorem dX9_replace_34 : decode cX9_replace 34 = .ok (.istore 4, 2) := by decide +kernel
theorem dX9_replace_36 : decode cX9_replace 36 = .ok (.iload 4, 2) := by decide +kernel
theorem dX9_replace_38 : decode cX9_replace 38 = .ok (.bipush 6, 2) := by decide +kernel
theorem dX9_replace_40 : decode cX9_replace 40 = .ok (.if_icmp .ge 98, 3) := by decide +kernel
theorem dX9_replace_43 : decode cX9_replace 43 = .ok (.iconst 0, 1) := by decide +kernel
theorem dX9_replace_44 : decode cX9_replace 44 = .ok (.istore 5, 2) := by decide +kernel
theorem dX9_replace_46 : decode cX9_replace 46 = .ok (.iload 5, 2) := by decide +kernel
theorem dX9_replace_48 : decode cX9_replace 48 = .ok (.aload_n 0, 1) := by decide +kernel
theorem dX9_replace_49 : decode cX9_replace 49 = .ok (.iload 4, 2) := by decide +kernel
theorem dX9_replace_51 : decode cX9_replace 51 = .ok (.invokevirtual 57, 3) := by decide +kernel
theorem dX9_replace_54 : decode cX9_replace 54 = .ok (.if_icmp .ge 78, 3) := by decide +kernel
theorem dX9_replace_57 : decode cX9_replace 57 = .ok (.aload_n 0, 1) := by decide +kernel
theorem dX9_replace_58 : decode cX9_replace 58 = .ok (.getfield 7, 3) := by decide +kernel
theorem dX9_replace_61 : decode cX9_replace 61 = .ok (.iload 4, 2) := by decide +kernel
theorem dX9_replace_63 : decode cX9_replace 63 = .ok (.iload 5, 2) := by decide +kernel
theorem dX9_replace_65 : decode cX9_replace 65 = .ok (.invokestatic 49, 3) := by decide +kernel
theorem dX9_replace_68 : decode cX9_replace 68 = .ok (.iaload, 1) := by decide +kernel
theorem dX9_replace_69 : decode cX9_replace 69 = .ok (.iload_n 1, 1) := by decide +kernel
theorem dX9_replace_70 : decode cX9_replace 70 = .ok (.if_icmp .ne 7, 3) := by decide +kernel
theorem dX9_replace_73 : decode cX9_replace 73 = .ok (.iconst 1, 1) := by decide +kernel
theorem dX9_replace_74 : decode cX9_replace 74 = .ok (.goto 4, 3) := by decide +kernel
theorem dX9_replace_77 : decode cX9_replace 77 = .ok (.iconst 0, 1) := by decide +kernel
theorem dX9_replace_78 : decode cX9_replace 78 = .ok (.istore 6, 2) := by decide +kernel
theorem dX9_replace_80 : decode cX9_replace 80 = .ok (.aload_n 0, 1) := by decide +kernel
theorem dX9_replace_81 : decode cX9_replace 81 = .ok (.getfield 7, 3) := by decide +kernel
theorem dX9_replace_84 : decode cX9_replace 84 = .ok (.iload 4, 2) := by decide +kernel
theorem dX9_replace_86 : decode cX9_replace 86 = .ok (.iload 5, 2) := by decide +kernel
theorem dX9_replace_88 : decode cX9_replace 88 = .ok (.invokestatic 49, 3) := by decide +kernel
theorem dX9_replace_91 : decode cX9_replace 91 = .ok (.iload 6, 2) := by decide +kernel
theorem dX9_replace_93 : decode cX9_replace 93 = .ok (.ifCond .eq 7, 3) := by decide +kernel
theorem dX9_replace_96 : decode cX9_replace 96 = .ok (.iload_n 2, 1) := by decide +kernel
theorem dX9_replace_97 : decode cX9_replace 97 = .ok (.goto 15, 3) := by decide +kernel
theorem dX9_replace_100 : decode cX9_replace 100 = .ok (.aload_n 0, 1) := by decide +kernel
theorem dX9_replace_101 : decode cX9_replace 101 = .ok (.getfield 7, 3) := by decide +kernel
theorem dX9_replace_104 : decode cX9_replace 104 = .ok (.iload 4, 2) := by decide +kernel
theorem dX9_replace_106 : decode cX9_replace 106 = .ok (.iload 5, 2) := by decide +kernel
theorem dX9_replace_108 : decode cX9_replace 108 = .ok (.invokestatic 49, 3) := by decide +kernel
theorem dX9_replace_111 : decode cX9_replace 111 = .ok (.iaload, 1) := by decide +kernel
theorem dX9_replace_112 : decode cX9_replace 112 = .ok (.iastore, 1) := by decide +kernel
theorem dX9_replace_113 : decode cX9_replace 113 = .ok (.iload_n 3, 1) := by decide +kernel
theorem dX9_replace_114 : decode cX9_replace 114 = .ok (.iload 6, 2) := by decide +kernel
theorem dX9_replace_116 : decode cX9_replace 116 = .ok (.ifCond .eq 7, 3) := by decide +kernel
theorem dX9_replace_119 : decode cX9_replace 119 = .ok (.iconst 1, 1) := by decide +kernel
theorem dX9_replace_120 : decode cX9_replace 120 = .ok (.goto 4, 3) := by decide +kernel
theorem dX9_replace_123 : decode cX9_replace 123 = .ok (.iconst 0, 1) := by decide +kernel
theorem dX9_replace_124 : decode cX9_replace 124 = .ok (.iadd, 1) := by decide +kernel
theorem dX9_replace_125 : decode cX9_replace 125 = .ok (.istore_n 3, 1) := by decide +kernel
theorem dX9_replace_126 : decode cX9_replace 126 = .ok (.iinc 5 1, 3) := by decide +kernel
theorem dX9_replace_129 : decode cX9_replace 129 = .ok (.goto (-83), 3) := by decide +kernel
theorem dX9_replace_132 : decode cX9_replace 132 = .ok (.iinc 4 1, 3) := by decide +kernel
theorem dX9_replace_135 : decode cX9_replace 135 = .ok (.goto (-99), 3) := by decide +kernel
theorem dX9_replace_138 : decode cX9_replace 138 = .ok (.iload_n 3, 1) := by decide +kernel
theorem dX9_replace_139 : decode cX9_replace 139 = .ok (.ireturn, 1) := by decide +kernel
theorem dX9_swap_0 : decode cX9_swap 0 = .ok (.iload_n 1, 1) := by decide +kernel
theorem dX9_swap_1 : decode cX9_swap 1 = .ok (.invokestatic 53, 3) := by decide +kernel
theorem dX9_swap_4 : decode cX9_swap 4 = .ok (.ifCond .eq 10, 3) := by decide +kernel
theorem dX9_swap_7 : decode cX9_swap 7 = .ok (.iload_n 2, 1) := by decide +kernel
theorem dX9_swap_8 : decode cX9_swap 8 = .ok (.invokestatic 53, 3) := by decide +kernel
theorem dX9_swap_11 : decode cX9_swap 11 = .ok (.ifCond .ne 5, 3) := by decide +kernel
theorem dX9_swap_14 : decode cX9_swap 14 = .ok (.iconst (-1), 1) := by decide +kernel
theorem dX9_swap_15 : decode cX9_swap 15 = .ok (.ireturn, 1) := by decide +kernel
theorem dX9_swap_16 : decode cX9_swap 16 = .ok (.aload_n 0, 1) := by decide +kernel
theorem dX9_swap_17 : decode cX9_swap 17 = .ok (.aload_n 0, 1) := by decide +kernel
theorem dX9_swap_18 : decode cX9_swap 18 = .ok (.getfield 7, 3) := by decide +kernel
theorem dX9_swap_21 : decode cX9_swap 21 = .ok (.invokevirtual 64, 3) := by decide +kernel
theorem dX9_swap_24 : decode cX9_swap 24 = .ok (.iconst 0, 1) := by decide +kernel
theorem dX9_swap_25 : decode cX9_swap 25 = .ok (.istore_n 3, 1) := by decide +kernel
theorem dX9_swap_26 : decode cX9_swap 26 = .ok (.iload_n 3, 1) := by decide +kernel
theorem dX9_swap_27 : decode cX9_swap 27 = .ok (.bipush 41, 2) := by decide +kernel
theorem dX9_swap_29 : decode cX9_swap 29 = .ok (.if_icmp .ge 69, 3) := by decide +kernel
theorem dX9_swap_32 : decode cX9_swap 32 = .ok (.aload_n 0, 1) := by decide +kernel
theorem dX9_swap_33 : decode cX9_swap 33 = .ok (.getfield 7, 3) := by decide +kernel
theorem dX9_swap_36 : decode cX9_swap 36 = .ok (.bipush 61, 2) := by decide +kernel
theorem dX9_swap_38 : decode cX9_swap 38 = .ok (.bipush 41, 2) := by decide +kernel
theorem dX9_swap_40 : decode cX9_swap 40 = .ok (.iload_n 1, 1) := by decide +kernel
theorem dX9_swap_41 : decode cX9_swap 41 = .ok (.imul, 1) := by decide +kernel
theorem dX9_swap_42 : decode cX9_swap 42 = .ok (.iadd, 1) := by decide +kernel
theorem dX9_swap_43 : decode cX9_swap 43 = .ok (.iload_n 3, 1) := by decide +kernel
theorem dX9_swap_44 : decode cX9_swap 44 = .ok (.iadd, 1) := by decide +kernel
theorem dX9_swap_45 : decode cX9_swap 45 = .ok (.iaload, 1) := by decide +kernel
theorem dX9_swap_46 : decode cX9_swap 46 = .ok (.istore 4, 2) := by decide +kernel
theorem dX9_swap_48 : decode cX9_swap 48 = .ok (.aload_n 0, 1) := by decide +kernel
theorem dX9_swap_49 : decode cX9_swap 49 = .ok (.getfield 7, 3) := by decide +kernel
theorem dX9_swap_52 : decode cX9_swap 52 = .ok (.bipush 61, 2) := by decide +kernel
theorem dX9_swap_54 : decode cX9_swap 54 = .ok (.bipush 41, 2) := by decide +kernel
theorem dX9_swap_56 : decode cX9_swap 56 = .ok (.iload_n 1, 1) := by decide +kernel
theorem dX9_swap_57 : decode cX9_swap 57 = .ok (.imul, 1) := by decide +kernel
theorem dX9_swap_58 : decode cX9_swap 58 = .ok (.iadd, 1) := by decide +kernel
theorem dX9_swap_59 : decode cX9_swap 59 = .ok (.iload_n 3, 1) := by decide +kernel
theorem dX9_swap_60 : decode cX9_swap 60 = .ok (.iadd, 1) := by decide +kernel
theorem dX9_swap_61 : decode cX9_swap 61 = .ok (.aload_n 0, 1) := by decide +kernel
theorem dX9_swap_62 : decode cX9_swap 62 = .ok (.getfield 7, 3) := by decide +kernel
theorem dX9_swap_65 : decode cX9_swap 65 = .ok (.bipush 61, 2) := by decide +kernel
theorem dX9_swap_67 : decode cX9_swap 67 = .ok (.bipush 41, 2) := by decide +kernel
theorem dX9_swap_69 : decode cX9_swap 69 = .ok (.iload_n 2, 1) := by decide +kernel
theorem dX9_swap_70 : decode cX9_swap 70 = .ok (.imul, 1) := by decide +kernel
theorem dX9_swap_71 : decode cX9_swap 71 = .ok (.iadd, 1) := by decide +kernel
theorem dX9_swap_72 : decode cX9_swap 72 = .ok (.iload_n 3, 1) := by decide +kernel
theorem dX9_swap_73 : decode cX9_swap 73 = .ok (.iadd, 1) := by decide +kernel
theorem dX9_swap_74 : decode cX9_swap 74 = .ok (.iaload, 1) := by decide +kernel
theorem dX9_swap_75 : decode cX9_swap 75 = .ok (.iastore, 1) := by decide +kernel
theorem dX9_swap_76 : decode cX9_swap 76 = .ok (.aload_n 0, 1) := by decide +kernel
theorem dX9_swap_77 : decode cX9_swap 77 = .ok (.getfield 7, 3) := by decide +kernel
theorem dX9_swap_80 : decode cX9_swap 80 = .ok (.bipush 61, 2) := by decide +kernel
theorem dX9_swap_82 : decode cX9_swap 82 = .ok (.bipush 41, 2) := by decide +kernel
theorem dX9_swap_84 : decode cX9_swap 84 = .ok (.iload_n 2, 1) := by decide +kernel
theorem dX9_swap_85 : decode cX9_swap 85 = .ok (.imul, 1) := by decide +kernel
theorem dX9_swap_86 : decode cX9_swap 86 = .ok (.iadd, 1) := by decide +kernel
theorem dX9_swap_87 : decode cX9_swap 87 = .ok (.iload_n 3, 1) := by decide +kernel
theorem dX9_swap_88 : decode cX9_swap 88 = .ok (.iadd, 1) := by decide +kernel
theorem dX9_swap_89 : decode cX9_swap 89 = .ok (.iload 4, 2) := by decide +kernel
theorem dX9_swap_91 : decode cX9_swap 91 = .ok (.iastore, 1) := by decide +kernel
theorem dX9_swap_92 : decode cX9_swap 92 = .ok (.iinc 3 1, 3) := by decide +kernel
theorem dX9_swap_95 : decode cX9_swap 95 = .ok (.goto (-69), 3) := by decide +kernel
theorem dX9_swap_98 : decode cX9_swap 98 = .ok (.aload_n 0, 1) := by decide +kernel
theorem dX9_swap_99 : decode cX9_swap 99 = .ok (.iconst (-1), 1) := by decide +kernel
theorem dX9_swap_100 : decode cX9_swap 100 = .ok (.invokevirtual 68, 3) := by decide +kernel
theorem dX9_swap_103 : decode cX9_swap 103 = .ok (.ireturn, 1) := by decide +kernel
theorem dX9_ofTerm_0 : decode cX9_ofTerm 0 = .ok (.iload_n 1, 1) := by decide +kernel
theorem dX9_ofTerm_1 : decode cX9_ofTerm 1 = .ok (.bipush 12, 2) := by decide +kernel
theorem dX9_ofTerm_3 : decode cX9_ofTerm 3 = .ok (.if_icmp .ne 12, 3) := by decide +kernel
theorem dX9_ofTerm_6 : decode cX9_ofTerm 6 = .ok (.aload_n 0, 1) := by decide +kernel
theorem dX9_ofTerm_7 : decode cX9_ofTerm 7 = .ok (.getfield 25, 3) := by decide +kernel
theorem dX9_ofTerm_10 : decode cX9_ofTerm 10 = .ok (.iload_n 2, 1) := by decide +kernel
theorem dX9_ofTerm_11 : decode cX9_ofTerm 11 = .ok (.iaload, 1) := by decide +kernel
theorem dX9_ofTerm_12 : decode cX9_ofTerm 12 = .ok (.goto 18, 3) := by decide +kernel
theorem dX9_ofTerm_15 : decode cX9_ofTerm 15 = .ok (.aload_n 0, 1) := by decide +kernel
theorem dX9_ofTerm_16 : decode cX9_ofTerm 16 = .ok (.getfield 7, 3) := by decide +kernel
theorem dX9_ofTerm_19 : decode cX9_ofTerm 19 = .ok (.sipush 308, 3) := by decide +kernel
theorem dX9_ofTerm_22 : decode cX9_ofTerm 22 = .ok (.bipush 6, 2) := by decide +kernel
theorem dX9_ofTerm_24 : decode cX9_ofTerm 24 = .ok (.iload_n 1, 1) := by decide +kernel
theorem dX9_ofTerm_25 : decode cX9_ofTerm 25 = .ok (.imul, 1) := by decide +kernel
theorem dX9_ofTerm_26 : decode cX9_ofTerm 26 = .ok (.iadd, 1) := by decide +kernel
theorem dX9_ofTerm_27 : decode cX9_ofTerm 27 = .ok (.iload_n 2, 1) := by decide +kernel
theorem dX9_ofTerm_28 : decode cX9_ofTerm 28 = .ok (.iadd, 1) := by decide +kernel
theorem dX9_ofTerm_29 : decode cX9_ofTerm 29 = .ok (.iaload, 1) := by decide +kernel
theorem dX9_ofTerm_30 : decode cX9_ofTerm 30 = .ok (.ireturn, 1) := by decide +kernel
theorem dX9_isTerm_0 : decode cX9_isTerm 0 = .ok (.iload_n 1, 1) := by decide +kernel
theorem dX9_isTerm_1 : decode cX9_isTerm 1 = .ok (.iconst 0, 1) := by decide +kernel
theorem dX9_isTerm_2 : decode cX9_isTerm 2 = .ok (.aload_n 0, 1) := by decide +kernel
theorem dX9_isTerm_3 : decode cX9_isTerm 3 = .ok (.getfield 7, 3) := by decide +kernel
theorem dX9_isTerm_6 : decode cX9_isTerm 6 = .ok (.sipush 307, 3) := by decide +kernel
theorem dX9_isTerm_9 : decode cX9_isTerm 9 = .ok (.iaload, 1) := by decide +kernel
theorem dX9_isTerm_10 : decode cX9_isTerm 10 = .ok (.iconst 1, 1) := by decide +kernel
theorem dX9_isTerm_11 : decode cX9_isTerm 11 = .ok (.isub, 1) := by decide +kernel
theorem dX9_isTerm_12 : decode cX9_isTerm 12 = .ok (.invokestatic 45, 3) := by decide +kernel
theorem dX9_isTerm_15 : decode cX9_isTerm 15 = .ok (.ireturn, 1) := by decide +kernel
theorem dX9_isQuiet_0 : decode cX9_isQuiet 0 = .ok (.iload_n 1, 1) := by decide +kernel
theorem dX9_isQuiet_1 : decode cX9_isQuiet 1 = .ok (.bipush 12, 2) := by decide +kernel
theorem dX9_isQuiet_3 : decode cX9_isQuiet 3 = .ok (.if_icmp .ge 26, 3) := by decide +kernel
theorem dX9_isQuiet_6 : decode cX9_isQuiet 6 = .ok (.aload_n 0, 1) := by decide +kernel
theorem dX9_isQuiet_7 : decode cX9_isQuiet 7 = .ok (.getfield 7, 3) := by decide +kernel
theorem dX9_isQuiet_10 : decode cX9_isQuiet 10 = .ok (.sipush 308, 3) := by decide +kernel
theorem dX9_isQuiet_13 : decode cX9_isQuiet 13 = .ok (.bipush 6, 2) := by decide +kernel
theorem dX9_isQuiet_15 : decode cX9_isQuiet 15 = .ok (.iload_n 1, 1) := by decide +kernel
theorem dX9_isQuiet_16 : decode cX9_isQuiet 16 = .ok (.imul, 1) := by decide +kernel
theorem dX9_isQuiet_17 : decode cX9_isQuiet 17 = .ok (.iadd, 1) := by decide +kernel
theorem dX9_isQuiet_18 : decode cX9_isQuiet 18 = .ok (.iconst 5, 1) := by decide +kernel
theorem dX9_isQuiet_19 : decode cX9_isQuiet 19 = .ok (.iadd, 1) := by decide +kernel
theorem dX9_isQuiet_20 : decode cX9_isQuiet 20 = .ok (.iaload, 1) := by decide +kernel
theorem dX9_isQuiet_21 : decode cX9_isQuiet 21 = .ok (.iconst 1, 1) := by decide +kernel
theorem dX9_isQuiet_22 : decode cX9_isQuiet 22 = .ok (.if_icmp .ne 7, 3) := by decide +kernel
theorem dX9_isQuiet_25 : decode cX9_isQuiet 25 = .ok (.iconst 1, 1) := by decide +kernel
theorem dX9_isQuiet_26 : decode cX9_isQuiet 26 = .ok (.goto 4, 3) := by decide +kernel
theorem dX9_isQuiet_29 : decode cX9_isQuiet 29 = .ok (.iconst 0, 1) := by decide +kernel
theorem dX9_isQuiet_30 : decode cX9_isQuiet 30 = .ok (.ireturn, 1) := by decide +kernel
theorem dX9_areAlike_0 : decode cX9_areAlike 0 = .ok (.aload_n 0, 1) := by decide +kernel
theorem dX9_areAlike_1 : decode cX9_areAlike 1 = .ok (.iload_n 1, 1) := by decide +kernel
theorem dX9_areAlike_2 : decode cX9_areAlike 2 = .ok (.iconst 0, 1) := by decide +kernel
theorem dX9_areAlike_3 : decode cX9_areAlike 3 = .ok (.invokevirtual 71, 3) := by decide +kernel
theorem dX9_areAlike_6 : decode cX9_areAlike 6 = .ok (.aload_n 0, 1) := by decide +kernel
theorem dX9_areAlike_7 : decode cX9_areAlike 7 = .ok (.iload_n 2, 1) := by decide +kernel
theorem dX9_areAlike_8 : decode cX9_areAlike 8 = .ok (.iconst 0, 1) := by decide +kernel
theorem dX9_areAlike_9 : decode cX9_areAlike 9 = .ok (.invokevirtual 71, 3) := by decide +kernel
theorem dX9_areAlike_12 : decode cX9_areAlike 12 = .ok (.if_icmp .ne 7, 3) := by decide +kernel
theorem dX9_areAlike_15 : decode cX9_areAlike 15 = .ok (.iconst 1, 1) := by decide +kernel
theorem dX9_areAlike_16 : decode cX9_areAlike 16 = .ok (.goto 4, 3) := by decide +kernel
theorem dX9_areAlike_19 : decode cX9_areAlike 19 = .ok (.iconst 0, 1) := by decide +kernel
theorem dX9_areAlike_20 : decode cX9_areAlike 20 = .ok (.istore_n 3, 1) := by decide +kernel
theorem dX9_areAlike_21 : decode cX9_areAlike 21 = .ok (.iconst 1, 1) := by decide +kernel
theorem dX9_areAlike_22 : decode cX9_areAlike 22 = .ok (.istore 4, 2) := by decide +kernel
theorem dX9_areAlike_24 : decode cX9_areAlike 24 = .ok (.iload 4, 2) := by decide +kernel
theorem dX9_areAlike_26 : decode cX9_areAlike 26 = .ok (.aload_n 0, 1) := by decide +kernel
theorem dX9_areAlike_27 : decode cX9_areAlike 27 = .ok (.iload_n 1, 1) := by decide +kernel
theorem dX9_areAlike_28 : decode cX9_areAlike 28 = .ok (.iconst 0, 1) := by decide +kernel
theorem dX9_areAlike_29 : decode cX9_areAlike 29 = .ok (.invokevirtual 71, 3) := by decide +kernel
theorem dX9_areAlike_32 : decode cX9_areAlike 32 = .ok (.if_icmp .gt 50, 3) := by decide +kernel
theorem dX9_areAlike_35 : decode cX9_areAlike 35 = .ok (.iload_n 3, 1) := by decide +kernel
theorem dX9_areAlike_36 : decode cX9_areAlike 36 = .ok (.ifCond .eq 46, 3) := by decide +kernel
theorem dX9_areAlike_39 : decode cX9_areAlike 39 = .ok (.aload_n 0, 1) := by decide +kernel
theorem dX9_areAlike_40 : decode cX9_areAlike 40 = .ok (.getfield 7, 3) := by decide +kernel
theorem dX9_areAlike_43 : decode cX9_areAlike 43 = .ok (.iconst 1, 1) := by decide +kernel
theorem dX9_areAlike_44 : decode cX9_areAlike 44 = .ok (.aload_n 0, 1) := by decide +kernel
theorem dX9_areAlike_45 : decode cX9_areAlike 45 = .ok (.iload_n 1, 1) := by decide +kernel
theorem dX9_areAlike_46 : decode cX9_areAlike 46 = .ok (.iload 4, 2) := by decide +kernel
theorem dX9_areAlike_48 : decode cX9_areAlike 48 = .ok (.invokevirtual 71, 3) := by decide +kernel
theorem dX9_areAlike_51 : decode cX9_areAlike 51 = .ok (.iadd, 1) := by decide +kernel
theorem dX9_areAlike_52 : decode cX9_areAlike 52 = .ok (.iaload, 1) := by decide +kernel
theorem dX9_areAlike_53 : decode cX9_areAlike 53 = .ok (.aload_n 0, 1) := by decide +kernel
theorem dX9_areAlike_54 : decode cX9_areAlike 54 = .ok (.getfield 7, 3) := by decide +kernel
theorem dX9_areAlike_57 : decode cX9_areAlike 57 = .ok (.iconst 1, 1) := by decide +kernel
theorem dX9_areAlike_58 : decode cX9_areAlike 58 = .ok (.aload_n 0, 1) := by decide +kernel
theorem dX9_areAlike_59 : decode cX9_areAlike 59 = .ok (.iload_n 2, 1) := by decide +kernel
theorem dX9_areAlike_60 : decode cX9_areAlike 60 = .ok (.iload 4, 2) := by decide +kernel
theorem dX9_areAlike_62 : decode cX9_areAlike 62 = .ok (.invokevirtual 71, 3) := by decide +kernel
theorem dX9_areAlike_65 : decode cX9_areAlike 65 = .ok (.iadd, 1) := by decide +kernel
theorem dX9_areAlike_66 : decode cX9_areAlike 66 = .ok (.iaload, 1) := by decide +kernel
theorem dX9_areAlike_67 : decode cX9_areAlike 67 = .ok (.if_icmp .ne 7, 3) := by decide +kernel
theorem dX9_areAlike_70 : decode cX9_areAlike 70 = .ok (.iconst 1, 1) := by decide +kernel
theorem dX9_areAlike_71 : decode cX9_areAlike 71 = .ok (.goto 4, 3) := by decide +kernel
theorem dX9_areAlike_74 : decode cX9_areAlike 74 = .ok (.iconst 0, 1) := by decide +kernel
theorem dX9_areAlike_75 : decode cX9_areAlike 75 = .ok (.istore_n 3, 1) := by decide +kernel
theorem dX9_areAlike_76 : decode cX9_areAlike 76 = .ok (.iinc 4 1, 3) := by decide +kernel
theorem dX9_areAlike_79 : decode cX9_areAlike 79 = .ok (.goto (-55), 3) := by decide +kernel
theorem dX9_areAlike_82 : decode cX9_areAlike 82 = .ok (.iload_n 3, 1) := by decide +kernel
theorem dX9_areAlike_83 : decode cX9_areAlike 83 = .ok (.ireturn, 1) := by decide +kernel
theorem dX9_isThere_0 : decode cX9_isThere 0 = .ok (.iconst 0, 1) := by decide +kernel
theorem dX9_isThere_1 : decode cX9_isThere 1 = .ok (.istore_n 1, 1) := by decide +kernel
theorem dX9_isThere_2 : decode cX9_isThere 2 = .ok (.iconst 0, 1) := by decide +kernel
theorem dX9_isThere_3 : decode cX9_isThere 3 = .ok (.istore_n 2, 1) := by decide +kernel
theorem dX9_isThere_4 : decode cX9_isThere 4 = .ok (.iload_n 2, 1) := by decide +kernel
theorem dX9_isThere_5 : decode cX9_isThere 5 = .ok (.aload_n 0, 1) := by decide +kernel
theorem dX9_isThere_6 : decode cX9_isThere 6 = .ok (.getfield 7, 3) := by decide +kernel
theorem dX9_isThere_9 : decode cX9_isThere 9 = .ok (.sipush 307, 3) := by decide +kernel
theorem dX9_isThere_12 : decode cX9_isThere 12 = .ok (.iaload, 1) := by decide +kernel
theorem dX9_isThere_13 : decode cX9_isThere 13 = .ok (.if_icmp .ge 29, 3) := by decide +kernel
theorem dX9_isThere_16 : decode cX9_isThere 16 = .ok (.iload_n 1, 1) := by decide +kernel
theorem dX9_isThere_17 : decode cX9_isThere 17 = .ok (.ifCond .ne 13, 3) := by decide +kernel
theorem dX9_isThere_20 : decode cX9_isThere 20 = .ok (.aload_n 0, 1) := by decide +kernel
theorem dX9_isThere_21 : decode cX9_isThere 21 = .ok (.iload_n 2, 1) := by decide +kernel
theorem dX9_isThere_22 : decode cX9_isThere 22 = .ok (.bipush 12, 2) := by decide +kernel
theorem dX9_isThere_24 : decode cX9_isThere 24 = .ok (.invokevirtual 74, 3) := by decide +kernel
theorem dX9_isThere_27 : decode cX9_isThere 27 = .ok (.ifCond .eq 7, 3) := by decide +kernel
theorem dX9_isThere_30 : decode cX9_isThere 30 = .ok (.iconst 1, 1) := by decide +kernel
theorem dX9_isThere_31 : decode cX9_isThere 31 = .ok (.goto 4, 3) := by decide +kernel
theorem dX9_isThere_34 : decode cX9_isThere 34 = .ok (.iconst 0, 1) := by decide +kernel
theorem dX9_isThere_35 : decode cX9_isThere 35 = .ok (.istore_n 1, 1) := by decide +kernel
theorem dX9_isThere_36 : decode cX9_isThere 36 = .ok (.iinc 2 1, 3) := by decide +kernel
theorem dX9_isThere_39 : decode cX9_isThere 39 = .ok (.goto (-35), 3) := by decide +kernel
theorem dX9_isThere_42 : decode cX9_isThere 42 = .ok (.iload_n 1, 1) := by decide +kernel
theorem dX9_isThere_43 : decode cX9_isThere 43 = .ok (.ireturn, 1) := by decide +kernel
theorem dX9_tries_0 : decode cX9_tries 0 = .ok (.aload_n 0, 1) := by decide +kernel
theorem dX9_tries_1 : decode cX9_tries 1 = .ok (.getfield 25, 3) := by decide +kernel
theorem dX9_tries_4 : decode cX9_tries 4 = .ok (.iconst 1, 1) := by decide +kernel
theorem dX9_tries_5 : decode cX9_tries 5 = .ok (.iload_n 1, 1) := by decide +kernel
theorem dX9_tries_6 : decode cX9_tries 6 = .ok (.iastore, 1) := by decide +kernel
theorem dX9_tries_7 : decode cX9_tries 7 = .ok (.aload_n 0, 1) := by decide +kernel
theorem dX9_tries_8 : decode cX9_tries 8 = .ok (.getfield 25, 3) := by decide +kernel
theorem dX9_tries_11 : decode cX9_tries 11 = .ok (.iconst 2, 1) := by decide +kernel
theorem dX9_tries_12 : decode cX9_tries 12 = .ok (.iload_n 2, 1) := by decide +kernel
theorem dX9_tries_13 : decode cX9_tries 13 = .ok (.iastore, 1) := by decide +kernel
theorem dX9_tries_14 : decode cX9_tries 14 = .ok (.aload_n 0, 1) := by decide +kernel
theorem dX9_tries_15 : decode cX9_tries 15 = .ok (.getfield 25, 3) := by decide +kernel
theorem dX9_tries_18 : decode cX9_tries 18 = .ok (.iconst 3, 1) := by decide +kernel
theorem dX9_tries_19 : decode cX9_tries 19 = .ok (.iload_n 3, 1) := by decide +kernel
theorem dX9_tries_20 : decode cX9_tries 20 = .ok (.iastore, 1) := by decide +kernel
theorem dX9_tries_21 : decode cX9_tries 21 = .ok (.aload_n 0, 1) := by decide +kernel
theorem dX9_tries_22 : decode cX9_tries 22 = .ok (.getfield 25, 3) := by decide +kernel
theorem dX9_tries_25 : decode cX9_tries 25 = .ok (.iconst 4, 1) := by decide +kernel
theorem dX9_tries_26 : decode cX9_tries 26 = .ok (.iload 4, 2) := by decide +kernel
theorem dX9_tries_28 : decode cX9_tries 28 = .ok (.iastore, 1) := by decide +kernel
theorem dX9_tries_29 : decode cX9_tries 29 = .ok (.aload_n 0, 1) := by decide +kernel
theorem dX9_tries_30 : decode cX9_tries 30 = .ok (.getfield 25, 3) := by decide +kernel
theorem dX9_tries_33 : decode cX9_tries 33 = .ok (.iconst 0, 1) := by decide +kernel
theorem dX9_tries_34 : decode cX9_tries 34 = .ok (.iload_n 2, 1) := by decide +kernel
theorem dX9_tries_35 : decode cX9_tries 35 = .ok (.iconst (-1), 1) := by decide +kernel
theorem dX9_tries_36 : decode cX9_tries 36 = .ok (.if_icmp .ne 7, 3) := by decide +kernel
theorem dX9_tries_39 : decode cX9_tries 39 = .ok (.iconst 1, 1) := by decide +kernel
theorem dX9_tries_40 : decode cX9_tries 40 = .ok (.goto 23, 3) := by decide +kernel
theorem dX9_tries_43 : decode cX9_tries 43 = .ok (.iload_n 3, 1) := by decide +kernel
theorem dX9_tries_44 : decode cX9_tries 44 = .ok (.iconst (-1), 1) := by decide +kernel
theorem dX9_tries_45 : decode cX9_tries 45 = .ok (.if_icmp .ne 7, 3) := by decide +kernel
theorem dX9_tries_48 : decode cX9_tries 48 = .ok (.iconst 2, 1) := by decide +kernel
theorem dX9_tries_49 : decode cX9_tries 49 = .ok (.goto 14, 3) := by decide +kernel
theorem dX9_tries_52 : decode cX9_tries 52 = .ok (.iload 4, 2) := by decide +kernel
theorem dX9_tries_54 : decode cX9_tries 54 = .ok (.iconst (-1), 1) := by decide +kernel
theorem dX9_tries_55 : decode cX9_tries 55 = .ok (.if_icmp .ne 7, 3) := by decide +kernel
theorem dX9_tries_58 : decode cX9_tries 58 = .ok (.iconst 3, 1) := by decide +kernel
theorem dX9_tries_59 : decode cX9_tries 59 = .ok (.goto 4, 3) := by decide +kernel
theorem dX9_tries_62 : decode cX9_tries 62 = .ok (.iconst 4, 1) := by decide +kernel
theorem dX9_tries_63 : decode cX9_tries 63 = .ok (.iastore, 1) := by decide +kernel
theorem dX9_tries_64 : decode cX9_tries 64 = .ok (.iconst 1, 1) := by decide +kernel
theorem dX9_tries_65 : decode cX9_tries 65 = .ok (.istore 5, 2) := by decide +kernel
theorem dX9_tries_67 : decode cX9_tries 67 = .ok (.iconst 1, 1) := by decide +kernel
theorem dX9_tries_68 : decode cX9_tries 68 = .ok (.istore 6, 2) := by decide +kernel
theorem dX9_tries_70 : decode cX9_tries 70 = .ok (.iload 6, 2) := by decide +kernel
theorem dX9_tries_72 : decode cX9_tries 72 = .ok (.iconst 4, 1) := by decide +kernel
theorem dX9_tries_73 : decode cX9_tries 73 = .ok (.if_icmp .gt 60, 3) := by decide +kernel
theorem dX9_tries_76 : decode cX9_tries 76 = .ok (.iload 5, 2) := by decide +kernel
theorem dX9_tries_78 : decode cX9_tries 78 = .ok (.ifCond .eq 46, 3) := by decide +kernel
theorem dX9_tries_81 : decode cX9_tries 81 = .ok (.iload 6, 2) := by decide +kernel
theorem dX9_tries_83 : decode cX9_tries 83 = .ok (.aload_n 0, 1) := by decide +kernel
theorem dX9_tries_84 : decode cX9_tries 84 = .ok (.getfield 25, 3) := by decide +kernel
theorem dX9_tries_87 : decode cX9_tries 87 = .ok (.iconst 0, 1) := by decide +kernel
theorem dX9_tries_88 : decode cX9_tries 88 = .ok (.iaload, 1) := by decide +kernel
theorem dX9_tries_89 : decode cX9_tries 89 = .ok (.if_icmp .gt 20, 3) := by decide +kernel
theorem dX9_tries_92 : decode cX9_tries 92 = .ok (.aload_n 0, 1) := by decide +kernel
theorem dX9_tries_93 : decode cX9_tries 93 = .ok (.aload_n 0, 1) := by decide +kernel
theorem dX9_tries_94 : decode cX9_tries 94 = .ok (.getfield 25, 3) := by decide +kernel
theorem dX9_tries_97 : decode cX9_tries 97 = .ok (.iload 6, 2) := by decide +kernel
theorem dX9_tries_99 : decode cX9_tries 99 = .ok (.iaload, 1) := by decide +kernel
theorem dX9_tries_100 : decode cX9_tries 100 = .ok (.invokevirtual 61, 3) := by decide +kernel
theorem dX9_tries_103 : decode cX9_tries 103 = .ok (.ifCond .eq 21, 3) := by decide +kernel
theorem dX9_tries_106 : decode cX9_tries 106 = .ok (.goto 14, 3) := by decide +kernel
theorem dX9_tries_109 : decode cX9_tries 109 = .ok (.aload_n 0, 1) := by decide +kernel
theorem dX9_tries_110 : decode cX9_tries 110 = .ok (.getfield 25, 3) := by decide +kernel
theorem dX9_tries_113 : decode cX9_tries 113 = .ok (.iload 6, 2) := by decide +kernel
theorem dX9_tries_115 : decode cX9_tries 115 = .ok (.iaload, 1) := by decide +kernel
theorem dX9_tries_116 : decode cX9_tries 116 = .ok (.iconst (-1), 1) := by decide +kernel
theorem dX9_tries_117 : decode cX9_tries 117 = .ok (.if_icmp .ne 7, 3) := by decide +kernel
theorem dX9_tries_120 : decode cX9_tries 120 = .ok (.iconst 1, 1) := by decide +kernel
theorem dX9_tries_121 : decode cX9_tries 121 = .ok (.goto 4, 3) := by decide +kernel
theorem dX9_tries_124 : decode cX9_tries 124 = .ok (.iconst 0, 1) := by decide +kernel
theorem dX9_tries_125 : decode cX9_tries 125 = .ok (.istore 5, 2) := by decide +kernel
theorem dX9_tries_127 : decode cX9_tries 127 = .ok (.iinc 6 1, 3) := by decide +kernel
theorem dX9_tries_130 : decode cX9_tries 130 = .ok (.goto (-60), 3) := by decide +kernel
theorem dX9_tries_133 : decode cX9_tries 133 = .ok (.iload 5, 2) := by decide +kernel
theorem dX9_tries_135 : decode cX9_tries 135 = .ok (.ireturn, 1) := by decide +kernel
theorem dX9_comes_0 : decode cX9_comes 0 = .ok (.sipush 308, 3) := by decide +kernel
theorem dX9_comes_3 : decode cX9_comes 3 = .ok (.bipush 6, 2) := by decide +kernel
theorem dX9_comes_5 : decode cX9_comes 5 = .ok (.aload_n 0, 1) := by decide +kernel
theorem dX9_comes_6 : decode cX9_comes 6 = .ok (.getfield 7, 3) := by decide +kernel
theorem dX9_comes_9 : decode cX9_comes 9 = .ok (.sipush 307, 3) := by decide +kernel
theorem dX9_comes_12 : decode cX9_comes 12 = .ok (.iaload, 1) := by decide +kernel
theorem dX9_comes_13 : decode cX9_comes 13 = .ok (.imul, 1) := by decide +kernel
theorem dX9_comes_14 : decode cX9_comes 14 = .ok (.iadd, 1) := by decide +kernel
theorem dX9_comes_15 : decode cX9_comes 15 = .ok (.istore_n 1, 1) := by decide +kernel
theorem dX9_comes_16 : decode cX9_comes 16 = .ok (.iconst 0, 1) := by decide +kernel
theorem dX9_comes_17 : decode cX9_comes 17 = .ok (.istore_n 2, 1) := by decide +kernel
theorem dX9_comes_18 : decode cX9_comes 18 = .ok (.iload_n 2, 1) := by decide +kernel
theorem dX9_comes_19 : decode cX9_comes 19 = .ok (.iconst 5, 1) := by decide +kernel
theorem dX9_comes_20 : decode cX9_comes 20 = .ok (.if_icmp .ge 37, 3) := by decide +kernel
theorem dX9_comes_23 : decode cX9_comes 23 = .ok (.aload_n 0, 1) := by decide +kernel
theorem dX9_comes_24 : decode cX9_comes 24 = .ok (.getfield 7, 3) := by decide +kernel
theorem dX9_comes_27 : decode cX9_comes 27 = .ok (.iload_n 1, 1) := by decide +kernel
theorem dX9_comes_28 : decode cX9_comes 28 = .ok (.iload_n 2, 1) := by decide +kernel
theorem dX9_comes_29 : decode cX9_comes 29 = .ok (.iadd, 1) := by decide +kernel
theorem dX9_comes_30 : decode cX9_comes 30 = .ok (.iload_n 2, 1) := by decide +kernel
theorem dX9_comes_31 : decode cX9_comes 31 = .ok (.aload_n 0, 1) := by decide +kernel
theorem dX9_comes_32 : decode cX9_comes 32 = .ok (.getfield 25, 3) := by decide +kernel
theorem dX9_comes_35 : decode cX9_comes 35 = .ok (.iconst 0, 1) := by decide +kernel
theorem dX9_comes_36 : decode cX9_comes 36 = .ok (.iaload, 1) := by decide +kernel
theorem dX9_comes_37 : decode cX9_comes 37 = .ok (.if_icmp .gt 12, 3) := by decide +kernel
theorem dX9_comes_40 : decode cX9_comes 40 = .ok (.aload_n 0, 1) := by decide +kernel
theorem dX9_comes_41 : decode cX9_comes 41 = .ok (.getfield 25, 3) := by decide +kernel
theorem dX9_comes_44 : decode cX9_comes 44 = .ok (.iload_n 2, 1) := by decide +kernel
theorem dX9_comes_45 : decode cX9_comes 45 = .ok (.iaload, 1) := by decide +kernel
theorem dX9_comes_46 : decode cX9_comes 46 = .ok (.goto 4, 3) := by decide +kernel
theorem dX9_comes_49 : decode cX9_comes 49 = .ok (.iconst (-1), 1) := by decide +kernel
theorem dX9_comes_50 : decode cX9_comes 50 = .ok (.iastore, 1) := by decide +kernel
theorem dX9_comes_51 : decode cX9_comes 51 = .ok (.iinc 2 1, 3) := by decide +kernel
theorem dX9_comes_54 : decode cX9_comes 54 = .ok (.goto (-36), 3) := by decide +kernel
theorem dX9_comes_57 : decode cX9_comes 57 = .ok (.aload_n 0, 1) := by decide +kernel
theorem dX9_comes_58 : decode cX9_comes 58 = .ok (.getfield 7, 3) := by decide +kernel
theorem dX9_comes_61 : decode cX9_comes 61 = .ok (.iload_n 1, 1) := by decide +kernel
theorem dX9_comes_62 : decode cX9_comes 62 = .ok (.iconst 5, 1) := by decide +kernel
theorem dX9_comes_63 : decode cX9_comes 63 = .ok (.iadd, 1) := by decide +kernel
theorem dX9_comes_64 : decode cX9_comes 64 = .ok (.iconst 0, 1) := by decide +kernel
theorem dX9_comes_65 : decode cX9_comes 65 = .ok (.iastore, 1) := by decide +kernel
theorem dX9_comes_66 : decode cX9_comes 66 = .ok (.aload_n 0, 1) := by decide +kernel
theorem dX9_comes_67 : decode cX9_comes 67 = .ok (.getfield 7, 3) := by decide +kernel
theorem dX9_comes_70 : decode cX9_comes 70 = .ok (.sipush 307, 3) := by decide +kernel
theorem dX9_comes_73 : decode cX9_comes 73 = .ok (.dup2, 1) := by decide +kernel
theorem dX9_comes_74 : decode cX9_comes 74 = .ok (.iaload, 1) := by decide +kernel
theorem dX9_comes_75 : decode cX9_comes 75 = .ok (.iconst 1, 1) := by decide +kernel
theorem dX9_comes_76 : decode cX9_comes 76 = .ok (.iadd, 1) := by decide +kernel
theorem dX9_comes_77 : decode cX9_comes 77 = .ok (.iastore, 1) := by decide +kernel
theorem dX9_comes_78 : decode cX9_comes 78 = .ok (.aload_n 0, 1) := by decide +kernel
theorem dX9_comes_79 : decode cX9_comes 79 = .ok (.getfield 7, 3) := by decide +kernel
theorem dX9_comes_82 : decode cX9_comes 82 = .ok (.sipush 307, 3) := by decide +kernel
theorem dX9_comes_85 : decode cX9_comes 85 = .ok (.iaload, 1) := by decide +kernel
theorem dX9_comes_86 : decode cX9_comes 86 = .ok (.iconst 1, 1) := by decide +kernel
theorem dX9_comes_87 : decode cX9_comes 87 = .ok (.isub, 1) := by decide +kernel
theorem dX9_comes_88 : decode cX9_comes 88 = .ok (.ireturn, 1) := by decide +kernel
theorem dX9_addTerm_0 : decode cX9_addTerm 0 = .ok (.aload_n 0, 1) := by decide +kernel
theorem dX9_addTerm_1 : decode cX9_addTerm 1 = .ok (.iload_n 1, 1) := by decide +kernel
theorem dX9_addTerm_2 : decode cX9_addTerm 2 = .ok (.iload_n 2, 1) := by decide +kernel
theorem dX9_addTerm_3 : decode cX9_addTerm 3 = .ok (.iload_n 3, 1) := by decide +kernel
theorem dX9_addTerm_4 : decode cX9_addTerm 4 = .ok (.iload 4, 2) := by decide +kernel
theorem dX9_addTerm_6 : decode cX9_addTerm 6 = .ok (.invokevirtual 78, 3) := by decide +kernel
theorem dX9_addTerm_9 : decode cX9_addTerm 9 = .ok (.ifCond .ne 5, 3) := by decide +kernel
theorem dX9_addTerm_12 : decode cX9_addTerm 12 = .ok (.iconst (-1), 1) := by decide +kernel
theorem dX9_addTerm_13 : decode cX9_addTerm 13 = .ok (.ireturn, 1) := by decide +kernel
theorem dX9_addTerm_14 : decode cX9_addTerm 14 = .ok (.aload_n 0, 1) := by decide +kernel
theorem dX9_addTerm_15 : decode cX9_addTerm 15 = .ok (.invokevirtual 82, 3) := by decide +kernel
theorem dX9_addTerm_18 : decode cX9_addTerm 18 = .ok (.ifCond .eq 6, 3) := by decide +kernel
theorem dX9_addTerm_21 : decode cX9_addTerm 21 = .ok (.bipush (-2), 2) := by decide +kernel
theorem dX9_addTerm_23 : decode cX9_addTerm 23 = .ok (.ireturn, 1) := by decide +kernel
theorem dX9_addTerm_24 : decode cX9_addTerm 24 = .ok (.aload_n 0, 1) := by decide +kernel
theorem dX9_addTerm_25 : decode cX9_addTerm 25 = .ok (.getfield 7, 3) := by decide +kernel
theorem dX9_addTerm_28 : decode cX9_addTerm 28 = .ok (.sipush 307, 3) := by decide +kernel
theorem dX9_addTerm_31 : decode cX9_addTerm 31 = .ok (.iaload, 1) := by decide +kernel
theorem dX9_addTerm_32 : decode cX9_addTerm 32 = .ok (.bipush 12, 2) := by decide +kernel
theorem dX9_addTerm_34 : decode cX9_addTerm 34 = .ok (.if_icmp .ne 6, 3) := by decide +kernel
theorem dX9_addTerm_37 : decode cX9_addTerm 37 = .ok (.bipush (-3), 2) := by decide +kernel
theorem dX9_addTerm_39 : decode cX9_addTerm 39 = .ok (.ireturn, 1) := by decide +kernel
theorem dX9_addTerm_40 : decode cX9_addTerm 40 = .ok (.aload_n 0, 1) := by decide +kernel
theorem dX9_addTerm_41 : decode cX9_addTerm 41 = .ok (.aload_n 0, 1) := by decide +kernel
theorem dX9_addTerm_42 : decode cX9_addTerm 42 = .ok (.getfield 7, 3) := by decide +kernel
theorem dX9_addTerm_45 : decode cX9_addTerm 45 = .ok (.invokevirtual 64, 3) := by decide +kernel
theorem dX9_addTerm_48 : decode cX9_addTerm 48 = .ok (.aload_n 0, 1) := by decide +kernel
theorem dX9_addTerm_49 : decode cX9_addTerm 49 = .ok (.invokevirtual 86, 3) := by decide +kernel
theorem dX9_addTerm_52 : decode cX9_addTerm 52 = .ok (.ireturn, 1) := by decide +kernel
theorem dX9_removeTerm_0 : decode cX9_removeTerm 0 = .ok (.aload_n 0, 1) := by decide +kernel
theorem dX9_removeTerm_1 : decode cX9_removeTerm 1 = .ok (.iload_n 1, 1) := by decide +kernel
theorem dX9_removeTerm_2 : decode cX9_removeTerm 2 = .ok (.invokevirtual 90, 3) := by decide +kernel
theorem dX9_removeTerm_5 : decode cX9_removeTerm 5 = .ok (.ifCond .ne 5, 3) := by decide +kernel
theorem dX9_removeTerm_8 : decode cX9_removeTerm 8 = .ok (.iconst (-1), 1) := by decide +kernel
theorem dX9_removeTerm_9 : decode cX9_removeTerm 9 = .ok (.ireturn, 1) := by decide +kernel
theorem dX9_removeTerm_10 : decode cX9_removeTerm 10 = .ok (.aload_n 0, 1) := by decide +kernel
theorem dX9_removeTerm_11 : decode cX9_removeTerm 11 = .ok (.aload_n 0, 1) := by decide +kernel
theorem dX9_removeTerm_12 : decode cX9_removeTerm 12 = .ok (.getfield 7, 3) := by decide +kernel
theorem dX9_removeTerm_15 : decode cX9_removeTerm 15 = .ok (.invokevirtual 64, 3) := by decide +kernel
theorem dX9_removeTerm_18 : decode cX9_removeTerm 18 = .ok (.aload_n 0, 1) := by decide +kernel
theorem dX9_removeTerm_19 : decode cX9_removeTerm 19 = .ok (.getfield 7, 3) := by decide +kernel
theorem dX9_removeTerm_22 : decode cX9_removeTerm 22 = .ok (.sipush 307, 3) := by decide +kernel
theorem dX9_removeTerm_25 : decode cX9_removeTerm 25 = .ok (.dup2, 1) := by decide +kernel
theorem dX9_removeTerm_26 : decode cX9_removeTerm 26 = .ok (.iaload, 1) := by decide +kernel
theorem dX9_removeTerm_27 : decode cX9_removeTerm 27 = .ok (.iconst 1, 1) := by decide +kernel
theorem dX9_removeTerm_28 : decode cX9_removeTerm 28 = .ok (.isub, 1) := by decide +kernel
theorem dX9_removeTerm_29 : decode cX9_removeTerm 29 = .ok (.iastore, 1) := by decide +kernel
theorem dX9_removeTerm_30 : decode cX9_removeTerm 30 = .ok (.sipush 308, 3) := by decide +kernel
theorem dX9_removeTerm_33 : decode cX9_removeTerm 33 = .ok (.bipush 6, 2) := by decide +kernel
theorem dX9_removeTerm_35 : decode cX9_removeTerm 35 = .ok (.iload_n 1, 1) := by decide +kernel
theorem dX9_removeTerm_36 : decode cX9_removeTerm 36 = .ok (.imul, 1) := by decide +kernel
theorem dX9_removeTerm_37 : decode cX9_removeTerm 37 = .ok (.iadd, 1) := by decide +kernel
theorem dX9_removeTerm_38 : decode cX9_removeTerm 38 = .ok (.istore_n 2, 1) := by decide +kernel
theorem dX9_removeTerm_39 : decode cX9_removeTerm 39 = .ok (.iload_n 2, 1) := by decide +kernel
theorem dX9_removeTerm_40 : decode cX9_removeTerm 40 = .ok (.sipush 308, 3) := by decide +kernel
theorem dX9_removeTerm_43 : decode cX9_removeTerm 43 = .ok (.bipush 6, 2) := by decide +kernel
theorem dX9_removeTerm_45 : decode cX9_removeTerm 45 = .ok (.aload_n 0, 1) := by decide +kernel
theorem dX9_removeTerm_46 : decode cX9_removeTerm 46 = .ok (.getfield 7, 3) := by decide +kernel
theorem dX9_removeTerm_49 : decode cX9_removeTerm 49 = .ok (.sipush 307, 3) := by decide +kernel
theorem dX9_removeTerm_52 : decode cX9_removeTerm 52 = .ok (.iaload, 1) := by decide +kernel
theorem dX9_removeTerm_53 : decode cX9_removeTerm 53 = .ok (.imul, 1) := by decide +kernel
theorem dX9_removeTerm_54 : decode cX9_removeTerm 54 = .ok (.iadd, 1) := by decide +kernel
theorem dX9_removeTerm_55 : decode cX9_removeTerm 55 = .ok (.if_icmp .ge 24, 3) := by decide +kernel
theorem dX9_removeTerm_58 : decode cX9_removeTerm 58 = .ok (.aload_n 0, 1) := by decide +kernel
theorem dX9_removeTerm_59 : decode cX9_removeTerm 59 = .ok (.getfield 7, 3) := by decide +kernel
theorem dX9_removeTerm_62 : decode cX9_removeTerm 62 = .ok (.iload_n 2, 1) := by decide +kernel
theorem dX9_removeTerm_63 : decode cX9_removeTerm 63 = .ok (.aload_n 0, 1) := by decide +kernel
theorem dX9_removeTerm_64 : decode cX9_removeTerm 64 = .ok (.getfield 7, 3) := by decide +kernel
theorem dX9_removeTerm_67 : decode cX9_removeTerm 67 = .ok (.iload_n 2, 1) := by decide +kernel
theorem dX9_removeTerm_68 : decode cX9_removeTerm 68 = .ok (.bipush 6, 2) := by decide +kernel
theorem dX9_removeTerm_70 : decode cX9_removeTerm 70 = .ok (.iadd, 1) := by decide +kernel
theorem dX9_removeTerm_71 : decode cX9_removeTerm 71 = .ok (.iaload, 1) := by decide +kernel
theorem dX9_removeTerm_72 : decode cX9_removeTerm 72 = .ok (.iastore, 1) := by decide +kernel
theorem dX9_removeTerm_73 : decode cX9_removeTerm 73 = .ok (.iinc 2 1, 3) := by decide +kernel
theorem dX9_removeTerm_76 : decode cX9_removeTerm 76 = .ok (.goto (-37), 3) := by decide +kernel
theorem dX9_removeTerm_79 : decode cX9_removeTerm 79 = .ok (.aload_n 0, 1) := by decide +kernel
theorem dX9_removeTerm_80 : decode cX9_removeTerm 80 = .ok (.getfield 7, 3) := by decide +kernel
theorem dX9_removeTerm_83 : decode cX9_removeTerm 83 = .ok (.sipush 307, 3) := by decide +kernel
theorem dX9_removeTerm_86 : decode cX9_removeTerm 86 = .ok (.iaload, 1) := by decide +kernel
theorem dX9_removeTerm_87 : decode cX9_removeTerm 87 = .ok (.ireturn, 1) := by decide +kernel
theorem dX9_setQuiet_0 : decode cX9_setQuiet 0 = .ok (.aload_n 0, 1) := by decide +kernel
theorem dX9_setQuiet_1 : decode cX9_setQuiet 1 = .ok (.iload_n 1, 1) := by decide +kernel
theorem dX9_setQuiet_2 : decode cX9_setQuiet 2 = .ok (.invokevirtual 90, 3) := by decide +kernel
theorem dX9_setQuiet_5 : decode cX9_setQuiet 5 = .ok (.ifCond .eq 12, 3) := by decide +kernel
theorem dX9_setQuiet_8 : decode cX9_setQuiet 8 = .ok (.iload_n 2, 1) := by decide +kernel
theorem dX9_setQuiet_9 : decode cX9_setQuiet 9 = .ok (.iconst 0, 1) := by decide +kernel
theorem dX9_setQuiet_10 : decode cX9_setQuiet 10 = .ok (.iconst 1, 1) := by decide +kernel
theorem dX9_setQuiet_11 : decode cX9_setQuiet 11 = .ok (.invokestatic 45, 3) := by decide +kernel
theorem dX9_setQuiet_14 : decode cX9_setQuiet 14 = .ok (.ifCond .ne 5, 3) := by decide +kernel
theorem dX9_setQuiet_17 : decode cX9_setQuiet 17 = .ok (.iconst (-1), 1) := by decide +kernel
theorem dX9_setQuiet_18 : decode cX9_setQuiet 18 = .ok (.ireturn, 1) := by decide +kernel
theorem dX9_setQuiet_19 : decode cX9_setQuiet 19 = .ok (.aload_n 0, 1) := by decide +kernel
theorem dX9_setQuiet_20 : decode cX9_setQuiet 20 = .ok (.aload_n 0, 1) := by decide +kernel
theorem dX9_setQuiet_21 : decode cX9_setQuiet 21 = .ok (.getfield 7, 3) := by decide +kernel
theorem dX9_setQuiet_24 : decode cX9_setQuiet 24 = .ok (.invokevirtual 64, 3) := by decide +kernel
theorem dX9_setQuiet_27 : decode cX9_setQuiet 27 = .ok (.aload_n 0, 1) := by decide +kernel
theorem dX9_setQuiet_28 : decode cX9_setQuiet 28 = .ok (.getfield 7, 3) := by decide +kernel
theorem dX9_setQuiet_31 : decode cX9_setQuiet 31 = .ok (.sipush 308, 3) := by decide +kernel
theorem dX9_setQuiet_34 : decode cX9_setQuiet 34 = .ok (.bipush 6, 2) := by decide +kernel
theorem dX9_setQuiet_36 : decode cX9_setQuiet 36 = .ok (.iload_n 1, 1) := by decide +kernel
theorem dX9_setQuiet_37 : decode cX9_setQuiet 37 = .ok (.imul, 1) := by decide +kernel
theorem dX9_setQuiet_38 : decode cX9_setQuiet 38 = .ok (.iadd, 1) := by decide +kernel
theorem dX9_setQuiet_39 : decode cX9_setQuiet 39 = .ok (.iconst 5, 1) := by decide +kernel
theorem dX9_setQuiet_40 : decode cX9_setQuiet 40 = .ok (.iadd, 1) := by decide +kernel
theorem dX9_setQuiet_41 : decode cX9_setQuiet 41 = .ok (.iload_n 2, 1) := by decide +kernel
theorem dX9_setQuiet_42 : decode cX9_setQuiet 42 = .ok (.iastore, 1) := by decide +kernel
theorem dX9_setQuiet_43 : decode cX9_setQuiet 43 = .ok (.aload_n 0, 1) := by decide +kernel
theorem dX9_setQuiet_44 : decode cX9_setQuiet 44 = .ok (.iconst (-1), 1) := by decide +kernel
theorem dX9_setQuiet_45 : decode cX9_setQuiet 45 = .ok (.invokevirtual 68, 3) := by decide +kernel
theorem dX9_setQuiet_48 : decode cX9_setQuiet 48 = .ok (.ireturn, 1) := by decide +kernel
theorem dX9_hasForms_0 : decode cX9_hasForms 0 = .ok (.iconst 0, 1) := by decide +kernel
theorem dX9_hasForms_1 : decode cX9_hasForms 1 = .ok (.istore_n 2, 1) := by decide +kernel
theorem dX9_hasForms_2 : decode cX9_hasForms 2 = .ok (.iconst 0, 1) := by decide +kernel
theorem dX9_hasForms_3 : decode cX9_hasForms 3 = .ok (.istore_n 3, 1) := by decide +kernel
theorem dX9_hasForms_4 : decode cX9_hasForms 4 = .ok (.iload_n 3, 1) := by decide +kernel
theorem dX9_hasForms_5 : decode cX9_hasForms 5 = .ok (.aload_n 0, 1) := by decide +kernel
theorem dX9_hasForms_6 : decode cX9_hasForms 6 = .ok (.getfield 7, 3) := by decide +kernel
theorem dX9_hasForms_9 : decode cX9_hasForms 9 = .ok (.iconst 0, 1) := by decide +kernel
theorem dX9_hasForms_10 : decode cX9_hasForms 10 = .ok (.iaload, 1) := by decide +kernel
theorem dX9_hasForms_11 : decode cX9_hasForms 11 = .ok (.if_icmp .ge 36, 3) := by decide +kernel
theorem dX9_hasForms_14 : decode cX9_hasForms 14 = .ok (.iload_n 2, 1) := by decide +kernel
theorem dX9_hasForms_15 : decode cX9_hasForms 15 = .ok (.ifCond .ne 20, 3) := by decide +kernel
theorem dX9_hasForms_18 : decode cX9_hasForms 18 = .ok (.iload_n 3, 1) := by decide +kernel
theorem dX9_hasForms_19 : decode cX9_hasForms 19 = .ok (.iload_n 1, 1) := by decide +kernel
theorem dX9_hasForms_20 : decode cX9_hasForms 20 = .ok (.if_icmp .eq 19, 3) := by decide +kernel
theorem dX9_hasForms_23 : decode cX9_hasForms 23 = .ok (.aload_n 0, 1) := by decide +kernel
theorem dX9_hasForms_24 : decode cX9_hasForms 24 = .ok (.getfield 7, 3) := by decide +kernel
theorem dX9_hasForms_27 : decode cX9_hasForms 27 = .ok (.iconst 1, 1) := by decide +kernel
theorem dX9_hasForms_28 : decode cX9_hasForms 28 = .ok (.iload_n 3, 1) := by decide +kernel
theorem dX9_hasForms_29 : decode cX9_hasForms 29 = .ok (.iadd, 1) := by decide +kernel
theorem dX9_hasForms_30 : decode cX9_hasForms 30 = .ok (.iaload, 1) := by decide +kernel
theorem dX9_hasForms_31 : decode cX9_hasForms 31 = .ok (.iload_n 1, 1) := by decide +kernel
theorem dX9_hasForms_32 : decode cX9_hasForms 32 = .ok (.if_icmp .ne 7, 3) := by decide +kernel
theorem dX9_hasForms_35 : decode cX9_hasForms 35 = .ok (.iconst 1, 1) := by decide +kernel
theorem dX9_hasForms_36 : decode cX9_hasForms 36 = .ok (.goto 4, 3) := by decide +kernel
theorem dX9_hasForms_39 : decode cX9_hasForms 39 = .ok (.iconst 0, 1) := by decide +kernel
theorem dX9_hasForms_40 : decode cX9_hasForms 40 = .ok (.istore_n 2, 1) := by decide +kernel
theorem dX9_hasForms_41 : decode cX9_hasForms 41 = .ok (.iinc 3 1, 3) := by decide +kernel
theorem dX9_hasForms_44 : decode cX9_hasForms 44 = .ok (.goto (-40), 3) := by decide +kernel
theorem dX9_hasForms_47 : decode cX9_hasForms 47 = .ok (.iload_n 2, 1) := by decide +kernel
theorem dX9_hasForms_48 : decode cX9_hasForms 48 = .ok (.ireturn, 1) := by decide +kernel
theorem dX9_canBe_0 : decode cX9_canBe 0 = .ok (.iload_n 2, 1) := by decide +kernel
theorem dX9_canBe_1 : decode cX9_canBe 1 = .ok (.iload_n 1, 1) := by decide +kernel
theorem dX9_canBe_2 : decode cX9_canBe 2 = .ok (.if_icmp .eq 25, 3) := by decide +kernel
theorem dX9_canBe_5 : decode cX9_canBe 5 = .ok (.aload_n 0, 1) := by decide +kernel
theorem dX9_canBe_6 : decode cX9_canBe 6 = .ok (.getfield 7, 3) := by decide +kernel
theorem dX9_canBe_9 : decode cX9_canBe 9 = .ok (.iconst 1, 1) := by decide +kernel
theorem dX9_canBe_10 : decode cX9_canBe 10 = .ok (.iload_n 2, 1) := by decide +kernel
theorem dX9_canBe_11 : decode cX9_canBe 11 = .ok (.iadd, 1) := by decide +kernel
theorem dX9_canBe_12 : decode cX9_canBe 12 = .ok (.iaload, 1) := by decide +kernel
theorem dX9_canBe_13 : decode cX9_canBe 13 = .ok (.iload_n 2, 1) := by decide +kernel
theorem dX9_canBe_14 : decode cX9_canBe 14 = .ok (.if_icmp .ne 11, 3) := by decide +kernel
theorem dX9_canBe_17 : decode cX9_canBe 17 = .ok (.aload_n 0, 1) := by decide +kernel
theorem dX9_canBe_18 : decode cX9_canBe 18 = .ok (.iload_n 1, 1) := by decide +kernel
theorem dX9_canBe_19 : decode cX9_canBe 19 = .ok (.invokevirtual 93, 3) := by decide +kernel
theorem dX9_canBe_22 : decode cX9_canBe 22 = .ok (.ifCond .eq 5, 3) := by decide +kernel
theorem dX9_canBe_25 : decode cX9_canBe 25 = .ok (.iconst 0, 1) := by decide +kernel
theorem dX9_canBe_26 : decode cX9_canBe 26 = .ok (.ireturn, 1) := by decide +kernel
theorem dX9_canBe_27 : decode cX9_canBe 27 = .ok (.aload_n 0, 1) := by decide +kernel
theorem dX9_canBe_28 : decode cX9_canBe 28 = .ok (.getfield 7, 3) := by decide +kernel
theorem dX9_canBe_31 : decode cX9_canBe 31 = .ok (.iconst 1, 1) := by decide +kernel
theorem dX9_canBe_32 : decode cX9_canBe 32 = .ok (.iload_n 1, 1) := by decide +kernel
theorem dX9_canBe_33 : decode cX9_canBe 33 = .ok (.iadd, 1) := by decide +kernel
theorem dX9_canBe_34 : decode cX9_canBe 34 = .ok (.iaload, 1) := by decide +kernel
theorem dX9_canBe_35 : decode cX9_canBe 35 = .ok (.istore_n 3, 1) := by decide +kernel
theorem dX9_canBe_36 : decode cX9_canBe 36 = .ok (.aload_n 0, 1) := by decide +kernel
theorem dX9_canBe_37 : decode cX9_canBe 37 = .ok (.getfield 7, 3) := by decide +kernel
theorem dX9_canBe_40 : decode cX9_canBe 40 = .ok (.iconst 1, 1) := by decide +kernel
theorem dX9_canBe_41 : decode cX9_canBe 41 = .ok (.iload_n 1, 1) := by decide +kernel
theorem dX9_canBe_42 : decode cX9_canBe 42 = .ok (.iadd, 1) := by decide +kernel
theorem dX9_canBe_43 : decode cX9_canBe 43 = .ok (.iload_n 2, 1) := by decide +kernel
theorem dX9_canBe_44 : decode cX9_canBe 44 = .ok (.iastore, 1) := by decide +kernel
theorem dX9_canBe_45 : decode cX9_canBe 45 = .ok (.iconst 1, 1) := by decide +kernel
theorem dX9_canBe_46 : decode cX9_canBe 46 = .ok (.istore 4, 2) := by decide +kernel
theorem dX9_canBe_48 : decode cX9_canBe 48 = .ok (.iconst 0, 1) := by decide +kernel
theorem dX9_canBe_49 : decode cX9_canBe 49 = .ok (.istore 5, 2) := by decide +kernel
theorem dX9_canBe_51 : decode cX9_canBe 51 = .ok (.iload 5, 2) := by decide +kernel
theorem dX9_canBe_53 : decode cX9_canBe 53 = .ok (.aload_n 0, 1) := by decide +kernel
theorem dX9_canBe_54 : decode cX9_canBe 54 = .ok (.getfield 7, 3) := by decide +kernel
theorem dX9_canBe_57 : decode cX9_canBe 57 = .ok (.sipush 307, 3) := by decide +kernel
theorem dX9_canBe_60 : decode cX9_canBe 60 = .ok (.iaload, 1) := by decide +kernel
theorem dX9_canBe_61 : decode cX9_canBe 61 = .ok (.if_icmp .ge 48, 3) := by decide +kernel
theorem dX9_canBe_64 : decode cX9_canBe 64 = .ok (.iconst 0, 1) := by decide +kernel
theorem dX9_canBe_65 : decode cX9_canBe 65 = .ok (.istore 6, 2) := by decide +kernel
theorem dX9_canBe_67 : decode cX9_canBe 67 = .ok (.iload 6, 2) := by decide +kernel
theorem dX9_canBe_69 : decode cX9_canBe 69 = .ok (.iload 5, 2) := by decide +kernel
theorem dX9_canBe_71 : decode cX9_canBe 71 = .ok (.if_icmp .ge 32, 3) := by decide +kernel
theorem dX9_canBe_74 : decode cX9_canBe 74 = .ok (.iload 4, 2) := by decide +kernel
theorem dX9_canBe_76 : decode cX9_canBe 76 = .ok (.ifCond .eq 18, 3) := by decide +kernel
theorem dX9_canBe_79 : decode cX9_canBe 79 = .ok (.aload_n 0, 1) := by decide +kernel
theorem dX9_canBe_80 : decode cX9_canBe 80 = .ok (.iload 5, 2) := by decide +kernel
theorem dX9_canBe_82 : decode cX9_canBe 82 = .ok (.iload 6, 2) := by decide +kernel
theorem dX9_canBe_84 : decode cX9_canBe 84 = .ok (.invokevirtual 74, 3) := by decide +kernel
theorem dX9_canBe_87 : decode cX9_canBe 87 = .ok (.ifCond .ne 7, 3) := by decide +kernel
theorem dX9_canBe_90 : decode cX9_canBe 90 = .ok (.iconst 1, 1) := by decide +kernel
theorem dX9_canBe_91 : decode cX9_canBe 91 = .ok (.goto 4, 3) := by decide +kernel
theorem dX9_canBe_94 : decode cX9_canBe 94 = .ok (.iconst 0, 1) := by decide +kernel
theorem dX9_canBe_95 : decode cX9_canBe 95 = .ok (.istore 4, 2) := by decide +kernel
theorem dX9_canBe_97 : decode cX9_canBe 97 = .ok (.iinc 6 1, 3) := by decide +kernel
theorem dX9_canBe_100 : decode cX9_canBe 100 = .ok (.goto (-33), 3) := by decide +kernel
theorem dX9_canBe_103 : decode cX9_canBe 103 = .ok (.iinc 5 1, 3) := by decide +kernel
theorem dX9_canBe_106 : decode cX9_canBe 106 = .ok (.goto (-55), 3) := by decide +kernel
theorem dX9_canBe_109 : decode cX9_canBe 109 = .ok (.aload_n 0, 1) := by decide +kernel
theorem dX9_canBe_110 : decode cX9_canBe 110 = .ok (.getfield 7, 3) := by decide +kernel
theorem dX9_canBe_113 : decode cX9_canBe 113 = .ok (.iconst 1, 1) := by decide +kernel
theorem dX9_canBe_114 : decode cX9_canBe 114 = .ok (.iload_n 1, 1) := by decide +kernel
theorem dX9_canBe_115 : decode cX9_canBe 115 = .ok (.iadd, 1) := by decide +kernel
theorem dX9_canBe_116 : decode cX9_canBe 116 = .ok (.iload_n 3, 1) := by decide +kernel
theorem dX9_canBe_117 : decode cX9_canBe 117 = .ok (.iastore, 1) := by decide +kernel
theorem dX9_canBe_118 : decode cX9_canBe 118 = .ok (.iload 4, 2) := by decide +kernel
theorem dX9_canBe_120 : decode cX9_canBe 120 = .ok (.ireturn, 1) := by decide +kernel
theorem dX9_setBase_0 : decode cX9_setBase 0 = .ok (.aload_n 0, 1) := by decide +kernel
theorem dX9_setBase_1 : decode cX9_setBase 1 = .ok (.iload_n 1, 1) := by decide +kernel
theorem dX9_setBase_2 : decode cX9_setBase 2 = .ok (.invokevirtual 61, 3) := by decide +kernel
theorem dX9_setBase_5 : decode cX9_setBase 5 = .ok (.ifCond .eq 11, 3) := by decide +kernel
theorem dX9_setBase_8 : decode cX9_setBase 8 = .ok (.aload_n 0, 1) := by decide +kernel
theorem dX9_setBase_9 : decode cX9_setBase 9 = .ok (.iload_n 2, 1) := by decide +kernel
theorem dX9_setBase_10 : decode cX9_setBase 10 = .ok (.invokevirtual 61, 3) := by decide +kernel
theorem dX9_setBase_13 : decode cX9_setBase 13 = .ok (.ifCond .ne 5, 3) := by decide +kernel
theorem dX9_setBase_16 : decode cX9_setBase 16 = .ok (.iconst (-1), 1) := by decide +kernel
theorem dX9_setBase_17 : decode cX9_setBase 17 = .ok (.ireturn, 1) := by decide +kernel
theorem dX9_setBase_18 : decode cX9_setBase 18 = .ok (.aload_n 0, 1) := by decide +kernel
theorem dX9_setBase_19 : decode cX9_setBase 19 = .ok (.iload_n 1, 1) := by decide +kernel
theorem dX9_setBase_20 : decode cX9_setBase 20 = .ok (.iload_n 2, 1) := by decide +kernel
theorem dX9_setBase_21 : decode cX9_setBase 21 = .ok (.invokevirtual 96, 3) := by decide +kernel
theorem dX9_setBase_24 : decode cX9_setBase 24 = .ok (.ifCond .ne 6, 3) := by decide +kernel
theorem dX9_setBase_27 : decode cX9_setBase 27 = .ok (.bipush (-2), 2) := by decide +kernel
theorem dX9_setBase_29 : decode cX9_setBase 29 = .ok (.ireturn, 1) := by decide +kernel
theorem dX9_setBase_30 : decode cX9_setBase 30 = .ok (.aload_n 0, 1) := by decide +kernel
theorem dX9_setBase_31 : decode cX9_setBase 31 = .ok (.aload_n 0, 1) := by decide +kernel
theorem dX9_setBase_32 : decode cX9_setBase 32 = .ok (.getfield 7, 3) := by decide +kernel
theorem dX9_setBase_35 : decode cX9_setBase 35 = .ok (.invokevirtual 64, 3) := by decide +kernel
theorem dX9_setBase_38 : decode cX9_setBase 38 = .ok (.aload_n 0, 1) := by decide +kernel
theorem dX9_setBase_39 : decode cX9_setBase 39 = .ok (.getfield 7, 3) := by decide +kernel
theorem dX9_setBase_42 : decode cX9_setBase 42 = .ok (.iconst 1, 1) := by decide +kernel
theorem dX9_setBase_43 : decode cX9_setBase 43 = .ok (.iload_n 1, 1) := by decide +kernel
theorem dX9_setBase_44 : decode cX9_setBase 44 = .ok (.iadd, 1) := by decide +kernel
theorem dX9_setBase_45 : decode cX9_setBase 45 = .ok (.iaload, 1) := by decide +kernel
theorem dX9_setBase_46 : decode cX9_setBase 46 = .ok (.istore_n 3, 1) := by decide +kernel
theorem dX9_setBase_47 : decode cX9_setBase 47 = .ok (.aload_n 0, 1) := by decide +kernel
theorem dX9_setBase_48 : decode cX9_setBase 48 = .ok (.getfield 7, 3) := by decide +kernel
theorem dX9_setBase_51 : decode cX9_setBase 51 = .ok (.iconst 1, 1) := by decide +kernel
theorem dX9_setBase_52 : decode cX9_setBase 52 = .ok (.iload_n 1, 1) := by decide +kernel
theorem dX9_setBase_53 : decode cX9_setBase 53 = .ok (.iadd, 1) := by decide +kernel
theorem dX9_setBase_54 : decode cX9_setBase 54 = .ok (.iload_n 2, 1) := by decide +kernel
theorem dX9_setBase_55 : decode cX9_setBase 55 = .ok (.iastore, 1) := by decide +kernel
theorem dX9_setBase_56 : decode cX9_setBase 56 = .ok (.iload_n 3, 1) := by decide +kernel
theorem dX9_setBase_57 : decode cX9_setBase 57 = .ok (.ireturn, 1) := by decide +kernel
theorem dX9_wordsOfAll_0 : decode cX9_wordsOfAll 0 = .ok (.iconst 0, 1) := by decide +kernel
theorem dX9_wordsOfAll_1 : decode cX9_wordsOfAll 1 = .ok (.istore_n 1, 1) := by decide +kernel
theorem dX9_wordsOfAll_2 : decode cX9_wordsOfAll 2 = .ok (.iconst 0, 1) := by decide +kernel
theorem dX9_wordsOfAll_3 : decode cX9_wordsOfAll 3 = .ok (.istore_n 2, 1) := by decide +kernel
theorem dX9_wordsOfAll_4 : decode cX9_wordsOfAll 4 = .ok (.iload_n 2, 1) := by decide +kernel
theorem dX9_wordsOfAll_5 : decode cX9_wordsOfAll 5 = .ok (.bipush 6, 2) := by decide +kernel
theorem dX9_wordsOfAll_7 : decode cX9_wordsOfAll 7 = .ok (.if_icmp .ge 17, 3) := by decide +kernel
theorem dX9_wordsOfAll_10 : decode cX9_wordsOfAll 10 = .ok (.iload_n 1, 1) := by decide +kernel
theorem dX9_wordsOfAll_11 : decode cX9_wordsOfAll 11 = .ok (.aload_n 0, 1) := by decide +kernel
theorem dX9_wordsOfAll_12 : decode cX9_wordsOfAll 12 = .ok (.iload_n 2, 1) := by decide +kernel
theorem dX9_wordsOfAll_13 : decode cX9_wordsOfAll 13 = .ok (.invokevirtual 57, 3) := by decide +kernel
theorem dX9_wordsOfAll_16 : decode cX9_wordsOfAll 16 = .ok (.iadd, 1) := by decide +kernel
theorem dX9_wordsOfAll_17 : decode cX9_wordsOfAll 17 = .ok (.istore_n 1, 1) := by decide +kernel
theorem dX9_wordsOfAll_18 : decode cX9_wordsOfAll 18 = .ok (.iinc 2 1, 3) := by decide +kernel
theorem dX9_wordsOfAll_21 : decode cX9_wordsOfAll 21 = .ok (.goto (-17), 3) := by decide +kernel
theorem dX9_wordsOfAll_24 : decode cX9_wordsOfAll 24 = .ok (.iload_n 1, 1) := by decide +kernel
theorem dX9_wordsOfAll_25 : decode cX9_wordsOfAll 25 = .ok (.ireturn, 1) := by decide +kernel
theorem dX9_isSlot_0 : decode cX9_isSlot 0 = .ok (.iload_n 0, 1) := by decide +kernel
theorem dX9_isSlot_1 : decode cX9_isSlot 1 = .ok (.iconst 0, 1) := by decide +kernel
theorem dX9_isSlot_2 : decode cX9_isSlot 2 = .ok (.iconst 1, 1) := by decide +kernel
theorem dX9_isSlot_3 : decode cX9_isSlot 3 = .ok (.invokestatic 45, 3) := by decide +kernel
theorem dX9_isSlot_6 : decode cX9_isSlot 6 = .ok (.ireturn, 1) := by decide +kernel
theorem dX9_take_0 : decode cX9_take 0 = .ok (.iload_n 1, 1) := by decide +kernel
theorem dX9_take_1 : decode cX9_take 1 = .ok (.invokestatic 99, 3) := by decide +kernel
theorem dX9_take_4 : decode cX9_take 4 = .ok (.ifCond .ne 5, 3) := by decide +kernel
theorem dX9_take_7 : decode cX9_take 7 = .ok (.iconst (-1), 1) := by decide +kernel
theorem dX9_take_8 : decode cX9_take 8 = .ok (.ireturn, 1) := by decide +kernel
theorem dX9_take_9 : decode cX9_take 9 = .ok (.aload_n 0, 1) := by decide +kernel
theorem dX9_take_10 : decode cX9_take 10 = .ok (.aload_n 0, 1) := by decide +kernel
theorem dX9_take_11 : decode cX9_take 11 = .ok (.getfield 7, 3) := by decide +kernel
theorem dX9_take_14 : decode cX9_take 14 = .ok (.invokevirtual 64, 3) := by decide +kernel
theorem dX9_take_17 : decode cX9_take 17 = .ok (.sipush 380, 3) := by decide +kernel
theorem dX9_take_20 : decode cX9_take 20 = .ok (.sipush 247, 3) := by decide +kernel
theorem dX9_take_23 : decode cX9_take 23 = .ok (.iload_n 1, 1) := by decide +kernel
theorem dX9_take_24 : decode cX9_take 24 = .ok (.imul, 1) := by decide +kernel
theorem dX9_take_25 : decode cX9_take 25 = .ok (.iadd, 1) := by decide +kernel
theorem dX9_take_26 : decode cX9_take 26 = .ok (.istore_n 2, 1) := by decide +kernel
theorem dX9_take_27 : decode cX9_take 27 = .ok (.aload_n 0, 1) := by decide +kernel
theorem dX9_take_28 : decode cX9_take 28 = .ok (.getfield 7, 3) := by decide +kernel
theorem dX9_take_31 : decode cX9_take 31 = .ok (.iload_n 2, 1) := by decide +kernel
theorem dX9_take_32 : decode cX9_take 32 = .ok (.iconst 1, 1) := by decide +kernel
theorem dX9_take_33 : decode cX9_take 33 = .ok (.iastore, 1) := by decide +kernel
theorem dX9_take_34 : decode cX9_take 34 = .ok (.iconst 0, 1) := by decide +kernel
theorem dX9_take_35 : decode cX9_take 35 = .ok (.istore_n 3, 1) := by decide +kernel
theorem dX9_take_36 : decode cX9_take 36 = .ok (.iload_n 3, 1) := by decide +kernel
theorem dX9_take_37 : decode cX9_take 37 = .ok (.sipush 246, 3) := by decide +kernel
theorem dX9_take_40 : decode cX9_take 40 = .ok (.if_icmp .ge 28, 3) := by decide +kernel
theorem dX9_take_43 : decode cX9_take 43 = .ok (.aload_n 0, 1) := by decide +kernel
theorem dX9_take_44 : decode cX9_take 44 = .ok (.getfield 7, 3) := by decide +kernel
theorem dX9_take_47 : decode cX9_take 47 = .ok (.iload_n 2, 1) := by decide +kernel
theorem dX9_take_48 : decode cX9_take 48 = .ok (.iconst 1, 1) := by decide +kernel
theorem dX9_take_49 : decode cX9_take 49 = .ok (.iadd, 1) := by decide +kernel
theorem dX9_take_50 : decode cX9_take 50 = .ok (.iload_n 3, 1) := by decide +kernel
theorem dX9_take_51 : decode cX9_take 51 = .ok (.iadd, 1) := by decide +kernel
theorem dX9_take_52 : decode cX9_take 52 = .ok (.aload_n 0, 1) := by decide +kernel
theorem dX9_take_53 : decode cX9_take 53 = .ok (.getfield 7, 3) := by decide +kernel
theorem dX9_take_56 : decode cX9_take 56 = .ok (.bipush 61, 2) := by decide +kernel
theorem dX9_take_58 : decode cX9_take 58 = .ok (.iload_n 3, 1) := by decide +kernel
theorem dX9_take_59 : decode cX9_take 59 = .ok (.iadd, 1) := by decide +kernel
theorem dX9_take_60 : decode cX9_take 60 = .ok (.iaload, 1) := by decide +kernel
theorem dX9_take_61 : decode cX9_take 61 = .ok (.iastore, 1) := by decide +kernel
theorem dX9_take_62 : decode cX9_take 62 = .ok (.iinc 3 1, 3) := by decide +kernel
theorem dX9_take_65 : decode cX9_take 65 = .ok (.goto (-29), 3) := by decide +kernel
theorem dX9_take_68 : decode cX9_take 68 = .ok (.aload_n 0, 1) := by decide +kernel
theorem dX9_take_69 : decode cX9_take 69 = .ok (.invokevirtual 102, 3) := by decide +kernel
theorem dX9_take_72 : decode cX9_take 72 = .ok (.ireturn, 1) := by decide +kernel
theorem dX9_restore_0 : decode cX9_restore 0 = .ok (.iload_n 1, 1) := by decide +kernel
theorem dX9_restore_1 : decode cX9_restore 1 = .ok (.invokestatic 99, 3) := by decide +kernel
theorem dX9_restore_4 : decode cX9_restore 4 = .ok (.ifCond .ne 5, 3) := by decide +kernel
theorem dX9_restore_7 : decode cX9_restore 7 = .ok (.iconst (-1), 1) := by decide +kernel
theorem dX9_restore_8 : decode cX9_restore 8 = .ok (.ireturn, 1) := by decide +kernel
theorem dX9_restore_9 : decode cX9_restore 9 = .ok (.sipush 380, 3) := by decide +kernel
theorem dX9_restore_12 : decode cX9_restore 12 = .ok (.sipush 247, 3) := by decide +kernel
theorem dX9_restore_15 : decode cX9_restore 15 = .ok (.iload_n 1, 1) := by decide +kernel
theorem dX9_restore_16 : decode cX9_restore 16 = .ok (.imul, 1) := by decide +kernel
theorem dX9_restore_17 : decode cX9_restore 17 = .ok (.iadd, 1) := by decide +kernel
theorem dX9_restore_18 : decode cX9_restore 18 = .ok (.istore_n 2, 1) := by decide +kernel
theorem dX9_restore_19 : decode cX9_restore 19 = .ok (.aload_n 0, 1) := by decide +kernel
theorem dX9_restore_20 : decode cX9_restore 20 = .ok (.getfield 7, 3) := by decide +kernel
theorem dX9_restore_23 : decode cX9_restore 23 = .ok (.iload_n 2, 1) := by decide +kernel
theorem dX9_restore_24 : decode cX9_restore 24 = .ok (.iaload, 1) := by decide +kernel
theorem dX9_restore_25 : decode cX9_restore 25 = .ok (.ifCond .ne 6, 3) := by decide +kernel
theorem dX9_restore_28 : decode cX9_restore 28 = .ok (.bipush (-2), 2) := by decide +kernel
theorem dX9_restore_30 : decode cX9_restore 30 = .ok (.ireturn, 1) := by decide +kernel
theorem dX9_restore_31 : decode cX9_restore 31 = .ok (.aload_n 0, 1) := by decide +kernel
theorem dX9_restore_32 : decode cX9_restore 32 = .ok (.aload_n 0, 1) := by decide +kernel
theorem dX9_restore_33 : decode cX9_restore 33 = .ok (.getfield 7, 3) := by decide +kernel
theorem dX9_restore_36 : decode cX9_restore 36 = .ok (.invokevirtual 64, 3) := by decide +kernel
theorem dX9_restore_39 : decode cX9_restore 39 = .ok (.iconst 0, 1) := by decide +kernel
theorem dX9_restore_40 : decode cX9_restore 40 = .ok (.istore_n 3, 1) := by decide +kernel
theorem dX9_restore_41 : decode cX9_restore 41 = .ok (.iload_n 3, 1) := by decide +kernel
theorem dX9_restore_42 : decode cX9_restore 42 = .ok (.sipush 246, 3) := by decide +kernel
theorem dX9_restore_45 : decode cX9_restore 45 = .ok (.if_icmp .ge 28, 3) := by decide +kernel
theorem dX9_restore_48 : decode cX9_restore 48 = .ok (.aload_n 0, 1) := by decide +kernel
theorem dX9_restore_49 : decode cX9_restore 49 = .ok (.getfield 7, 3) := by decide +kernel
theorem dX9_restore_52 : decode cX9_restore 52 = .ok (.bipush 61, 2) := by decide +kernel
theorem dX9_restore_54 : decode cX9_restore 54 = .ok (.iload_n 3, 1) := by decide +kernel
theorem dX9_restore_55 : decode cX9_restore 55 = .ok (.iadd, 1) := by decide +kernel
theorem dX9_restore_56 : decode cX9_restore 56 = .ok (.aload_n 0, 1) := by decide +kernel
theorem dX9_restore_57 : decode cX9_restore 57 = .ok (.getfield 7, 3) := by decide +kernel
theorem dX9_restore_60 : decode cX9_restore 60 = .ok (.iload_n 2, 1) := by decide +kernel
theorem dX9_restore_61 : decode cX9_restore 61 = .ok (.iconst 1, 1) := by decide +kernel
theorem dX9_restore_62 : decode cX9_restore 62 = .ok (.iadd, 1) := by decide +kernel
theorem dX9_restore_63 : decode cX9_restore 63 = .ok (.iload_n 3, 1) := by decide +kernel
theorem dX9_restore_64 : decode cX9_restore 64 = .ok (.iadd, 1) := by decide +kernel
theorem dX9_restore_65 : decode cX9_restore 65 = .ok (.iaload, 1) := by decide +kernel
theorem dX9_restore_66 : decode cX9_restore 66 = .ok (.iastore, 1) := by decide +kernel
theorem dX9_restore_67 : decode cX9_restore 67 = .ok (.iinc 3 1, 3) := by decide +kernel
theorem dX9_restore_70 : decode cX9_restore 70 = .ok (.goto (-29), 3) := by decide +kernel
theorem dX9_restore_73 : decode cX9_restore 73 = .ok (.aload_n 0, 1) := by decide +kernel
theorem dX9_restore_74 : decode cX9_restore 74 = .ok (.invokevirtual 102, 3) := by decide +kernel
theorem dX9_restore_77 : decode cX9_restore 77 = .ok (.ireturn, 1) := by decide +kernel
theorem dX9_occurs_0 : decode cX9_occurs 0 = .ok (.iload_n 3, 1) := by decide +kernel
theorem dX9_occurs_1 : decode cX9_occurs 1 = .ok (.aload_n 0, 1) := by decide +kernel
theorem dX9_occurs_2 : decode cX9_occurs 2 = .ok (.iload_n 1, 1) := by decide +kernel
theorem dX9_occurs_3 : decode cX9_occurs 3 = .ok (.iconst 0, 1) := by decide +kernel
theorem dX9_occurs_4 : decode cX9_occurs 4 = .ok (.invokevirtual 71, 3) := by decide +kernel
theorem dX9_occurs_7 : decode cX9_occurs 7 = .ok (.iadd, 1) := by decide +kernel
theorem dX9_occurs_8 : decode cX9_occurs 8 = .ok (.aload_n 0, 1) := by decide +kernel
theorem dX9_occurs_9 : decode cX9_occurs 9 = .ok (.iload_n 2, 1) := by decide +kernel
theorem dX9_occurs_10 : decode cX9_occurs 10 = .ok (.invokevirtual 57, 3) := by decide +kernel
theorem dX9_occurs_13 : decode cX9_occurs 13 = .ok (.if_icmp .gt 7, 3) := by decide +kernel
theorem dX9_occurs_16 : decode cX9_occurs 16 = .ok (.iconst 1, 1) := by decide +kernel
theorem dX9_occurs_17 : decode cX9_occurs 17 = .ok (.goto 4, 3) := by decide +kernel
theorem dX9_occurs_20 : decode cX9_occurs 20 = .ok (.iconst 0, 1) := by decide +kernel
theorem dX9_occurs_21 : decode cX9_occurs 21 = .ok (.istore 4, 2) := by decide +kernel
theorem dX9_occurs_23 : decode cX9_occurs 23 = .ok (.iconst 0, 1) := by decide +kernel
theorem dX9_occurs_24 : decode cX9_occurs 24 = .ok (.istore 5, 2) := by decide +kernel
theorem dX9_occurs_26 : decode cX9_occurs 26 = .ok (.iload 5, 2) := by decide +kernel
theorem dX9_occurs_28 : decode cX9_occurs 28 = .ok (.aload_n 0, 1) := by decide +kernel
theorem dX9_occurs_29 : decode cX9_occurs 29 = .ok (.iload_n 1, 1) := by decide +kernel
theorem dX9_occurs_30 : decode cX9_occurs 30 = .ok (.iconst 0, 1) := by decide +kernel
theorem dX9_occurs_31 : decode cX9_occurs 31 = .ok (.invokevirtual 71, 3) := by decide +kernel
theorem dX9_occurs_34 : decode cX9_occurs 34 = .ok (.if_icmp .ge 49, 3) := by decide +kernel
theorem dX9_occurs_37 : decode cX9_occurs 37 = .ok (.iload 4, 2) := by decide +kernel
theorem dX9_occurs_39 : decode cX9_occurs 39 = .ok (.ifCond .eq 44, 3) := by decide +kernel
theorem dX9_occurs_42 : decode cX9_occurs 42 = .ok (.aload_n 0, 1) := by decide +kernel
theorem dX9_occurs_43 : decode cX9_occurs 43 = .ok (.iload_n 2, 1) := by decide +kernel
theorem dX9_occurs_44 : decode cX9_occurs 44 = .ok (.iload_n 3, 1) := by decide +kernel
theorem dX9_occurs_45 : decode cX9_occurs 45 = .ok (.iload 5, 2) := by decide +kernel
theorem dX9_occurs_47 : decode cX9_occurs 47 = .ok (.iadd, 1) := by decide +kernel
theorem dX9_occurs_48 : decode cX9_occurs 48 = .ok (.invokevirtual 105, 3) := by decide +kernel
theorem dX9_occurs_51 : decode cX9_occurs 51 = .ok (.aload_n 0, 1) := by decide +kernel
theorem dX9_occurs_52 : decode cX9_occurs 52 = .ok (.getfield 7, 3) := by decide +kernel
theorem dX9_occurs_55 : decode cX9_occurs 55 = .ok (.iconst 1, 1) := by decide +kernel
theorem dX9_occurs_56 : decode cX9_occurs 56 = .ok (.aload_n 0, 1) := by decide +kernel
theorem dX9_occurs_57 : decode cX9_occurs 57 = .ok (.iload_n 1, 1) := by decide +kernel
theorem dX9_occurs_58 : decode cX9_occurs 58 = .ok (.iload 5, 2) := by decide +kernel
theorem dX9_occurs_60 : decode cX9_occurs 60 = .ok (.iconst 1, 1) := by decide +kernel
theorem dX9_occurs_61 : decode cX9_occurs 61 = .ok (.iadd, 1) := by decide +kernel
theorem dX9_occurs_62 : decode cX9_occurs 62 = .ok (.invokevirtual 71, 3) := by decide +kernel
theorem dX9_occurs_65 : decode cX9_occurs 65 = .ok (.iadd, 1) := by decide +kernel
theorem dX9_occurs_66 : decode cX9_occurs 66 = .ok (.iaload, 1) := by decide +kernel
theorem dX9_occurs_67 : decode cX9_occurs 67 = .ok (.if_icmp .ne 7, 3) := by decide +kernel
theorem dX9_occurs_70 : decode cX9_occurs 70 = .ok (.iconst 1, 1) := by decide +kernel
theorem dX9_occurs_71 : decode cX9_occurs 71 = .ok (.goto 4, 3) := by decide +kernel
theorem dX9_occurs_74 : decode cX9_occurs 74 = .ok (.iconst 0, 1) := by decide +kernel
theorem dX9_occurs_75 : decode cX9_occurs 75 = .ok (.istore 4, 2) := by decide +kernel
theorem dX9_occurs_77 : decode cX9_occurs 77 = .ok (.iinc 5 1, 3) := by decide +kernel
theorem dX9_occurs_80 : decode cX9_occurs 80 = .ok (.goto (-54), 3) := by decide +kernel
theorem dX9_occurs_83 : decode cX9_occurs 83 = .ok (.iload 4, 2) := by decide +kernel
theorem dX9_occurs_85 : decode cX9_occurs 85 = .ok (.ireturn, 1) := by decide +kernel
theorem dX9_longest_0 : decode cX9_longest 0 = .ok (.bipush (-99), 2) := by decide +kernel
theorem dX9_longest_2 : decode cX9_longest 2 = .ok (.istore 5, 2) := by decide +kernel
theorem dX9_longest_4 : decode cX9_longest 4 = .ok (.iconst 0, 1) := by decide +kernel
theorem dX9_longest_5 : decode cX9_longest 5 = .ok (.istore 6, 2) := by decide +kernel
theorem dX9_longest_7 : decode cX9_longest 7 = .ok (.iload 6, 2) := by decide +kernel
theorem dX9_longest_9 : decode cX9_longest 9 = .ok (.bipush 12, 2) := by decide +kernel
theorem dX9_longest_11 : decode cX9_longest 11 = .ok (.if_icmp .gt 96, 3) := by decide +kernel
theorem dX9_longest_14 : decode cX9_longest 14 = .ok (.iload 6, 2) := by decide +kernel
theorem dX9_longest_16 : decode cX9_longest 16 = .ok (.bipush 12, 2) := by decide +kernel
theorem dX9_longest_18 : decode cX9_longest 18 = .ok (.if_icmp .ne 8, 3) := by decide +kernel
theorem dX9_longest_21 : decode cX9_longest 21 = .ok (.iload 4, 2) := by decide +kernel
theorem dX9_longest_23 : decode cX9_longest 23 = .ok (.goto 27, 3) := by decide +kernel
theorem dX9_longest_26 : decode cX9_longest 26 = .ok (.iload 6, 2) := by decide +kernel
theorem dX9_longest_28 : decode cX9_longest 28 = .ok (.aload_n 0, 1) := by decide +kernel
theorem dX9_longest_29 : decode cX9_longest 29 = .ok (.getfield 7, 3) := by decide +kernel
theorem dX9_longest_32 : decode cX9_longest 32 = .ok (.sipush 307, 3) := by decide +kernel
theorem dX9_longest_35 : decode cX9_longest 35 = .ok (.iaload, 1) := by decide +kernel
theorem dX9_longest_36 : decode cX9_longest 36 = .ok (.if_icmp .ge 13, 3) := by decide +kernel
theorem dX9_longest_39 : decode cX9_longest 39 = .ok (.iload 6, 2) := by decide +kernel
theorem dX9_longest_41 : decode cX9_longest 41 = .ok (.iload_n 3, 1) := by decide +kernel
theorem dX9_longest_42 : decode cX9_longest 42 = .ok (.if_icmp .eq 7, 3) := by decide +kernel
theorem dX9_longest_45 : decode cX9_longest 45 = .ok (.iconst 1, 1) := by decide +kernel
theorem dX9_longest_46 : decode cX9_longest 46 = .ok (.goto 4, 3) := by decide +kernel
theorem dX9_longest_49 : decode cX9_longest 49 = .ok (.iconst 0, 1) := by decide +kernel
theorem dX9_longest_50 : decode cX9_longest 50 = .ok (.istore 7, 2) := by decide +kernel
theorem dX9_longest_52 : decode cX9_longest 52 = .ok (.iload 7, 2) := by decide +kernel
theorem dX9_longest_54 : decode cX9_longest 54 = .ok (.ifCond .eq 47, 3) := by decide +kernel
theorem dX9_longest_57 : decode cX9_longest 57 = .ok (.aload_n 0, 1) := by decide +kernel
theorem dX9_longest_58 : decode cX9_longest 58 = .ok (.iload 6, 2) := by decide +kernel
theorem dX9_longest_60 : decode cX9_longest 60 = .ok (.iload_n 1, 1) := by decide +kernel
theorem dX9_longest_61 : decode cX9_longest 61 = .ok (.iload_n 2, 1) := by decide +kernel
theorem dX9_longest_62 : decode cX9_longest 62 = .ok (.invokevirtual 108, 3) := by decide +kernel
theorem dX9_longest_65 : decode cX9_longest 65 = .ok (.ifCond .eq 36, 3) := by decide +kernel
theorem dX9_longest_68 : decode cX9_longest 68 = .ok (.iload 5, 2) := by decide +kernel
theorem dX9_longest_70 : decode cX9_longest 70 = .ok (.bipush (-99), 2) := by decide +kernel
theorem dX9_longest_72 : decode cX9_longest 72 = .ok (.if_icmp .eq 20, 3) := by decide +kernel
theorem dX9_longest_75 : decode cX9_longest 75 = .ok (.aload_n 0, 1) := by decide +kernel
theorem dX9_longest_76 : decode cX9_longest 76 = .ok (.iload 6, 2) := by decide +kernel
theorem dX9_longest_78 : decode cX9_longest 78 = .ok (.iconst 0, 1) := by decide +kernel
theorem dX9_longest_79 : decode cX9_longest 79 = .ok (.invokevirtual 71, 3) := by decide +kernel
theorem dX9_longest_82 : decode cX9_longest 82 = .ok (.aload_n 0, 1) := by decide +kernel
theorem dX9_longest_83 : decode cX9_longest 83 = .ok (.iload 5, 2) := by decide +kernel
theorem dX9_longest_85 : decode cX9_longest 85 = .ok (.iconst 0, 1) := by decide +kernel
theorem dX9_longest_86 : decode cX9_longest 86 = .ok (.invokevirtual 71, 3) := by decide +kernel
theorem dX9_longest_89 : decode cX9_longest 89 = .ok (.if_icmp .le 8, 3) := by decide +kernel
theorem dX9_longest_92 : decode cX9_longest 92 = .ok (.iload 6, 2) := by decide +kernel
theorem dX9_longest_94 : decode cX9_longest 94 = .ok (.goto 5, 3) := by decide +kernel
theorem dX9_longest_97 : decode cX9_longest 97 = .ok (.iload 5, 2) := by decide +kernel
theorem dX9_longest_99 : decode cX9_longest 99 = .ok (.istore 5, 2) := by decide +kernel
theorem dX9_longest_101 : decode cX9_longest 101 = .ok (.iinc 6 1, 3) := by decide +kernel
theorem dX9_longest_104 : decode cX9_longest 104 = .ok (.goto (-97), 3) := by decide +kernel
theorem dX9_longest_107 : decode cX9_longest 107 = .ok (.iload 5, 2) := by decide +kernel
theorem dX9_longest_109 : decode cX9_longest 109 = .ok (.ireturn, 1) := by decide +kernel
theorem dX9_readsBy_0 : decode cX9_readsBy 0 = .ok (.iconst 0, 1) := by decide +kernel
theorem dX9_readsBy_1 : decode cX9_readsBy 1 = .ok (.istore 4, 2) := by decide +kernel
theorem dX9_readsBy_3 : decode cX9_readsBy 3 = .ok (.iconst 0, 1) := by decide +kernel
theorem dX9_readsBy_4 : decode cX9_readsBy 4 = .ok (.istore 5, 2) := by decide +kernel
theorem dX9_readsBy_6 : decode cX9_readsBy 6 = .ok (.iconst 0, 1) := by decide +kernel
theorem dX9_readsBy_7 : decode cX9_readsBy 7 = .ok (.istore 6, 2) := by decide +kernel
theorem dX9_readsBy_9 : decode cX9_readsBy 9 = .ok (.iconst 0, 1) := by decide +kernel
theorem dX9_readsBy_10 : decode cX9_readsBy 10 = .ok (.istore 7, 2) := by decide +kernel
theorem dX9_readsBy_12 : decode cX9_readsBy 12 = .ok (.iload 7, 2) := by decide +kernel
theorem dX9_readsBy_14 : decode cX9_readsBy 14 = .ok (.bipush 40, 2) := by decide +kernel
theorem dX9_readsBy_16 : decode cX9_readsBy 16 = .ok (.if_icmp .ge 35, 3) := by decide +kernel
theorem dX9_readsBy_19 : decode cX9_readsBy 19 = .ok (.aload_n 0, 1) := by decide +kernel
theorem dX9_readsBy_20 : decode cX9_readsBy 20 = .ok (.getfield 28, 3) := by decide +kernel
theorem dX9_readsBy_23 : decode cX9_readsBy 23 = .ok (.iload 7, 2) := by decide +kernel
theorem dX9_readsBy_25 : decode cX9_readsBy 25 = .ok (.bipush (-99), 2) := by decide +kernel
theorem dX9_readsBy_27 : decode cX9_readsBy 27 = .ok (.iastore, 1) := by decide +kernel
theorem dX9_readsBy_28 : decode cX9_readsBy 28 = .ok (.aload_n 0, 1) := by decide +kernel
theorem dX9_readsBy_29 : decode cX9_readsBy 29 = .ok (.getfield 31, 3) := by decide +kernel
theorem dX9_readsBy_32 : decode cX9_readsBy 32 = .ok (.iload 7, 2) := by decide +kernel
theorem dX9_readsBy_34 : decode cX9_readsBy 34 = .ok (.bipush (-99), 2) := by decide +kernel
theorem dX9_readsBy_36 : decode cX9_readsBy 36 = .ok (.iastore, 1) := by decide +kernel
theorem dX9_readsBy_37 : decode cX9_readsBy 37 = .ok (.aload_n 0, 1) := by decide +kernel
theorem dX9_readsBy_38 : decode cX9_readsBy 38 = .ok (.getfield 34, 3) := by decide +kernel
theorem dX9_readsBy_41 : decode cX9_readsBy 41 = .ok (.iload 7, 2) := by decide +kernel
theorem dX9_readsBy_43 : decode cX9_readsBy 43 = .ok (.iconst 0, 1) := by decide +kernel
theorem dX9_readsBy_44 : decode cX9_readsBy 44 = .ok (.bastore, 1) := by decide +kernel
theorem dX9_readsBy_45 : decode cX9_readsBy 45 = .ok (.iinc 7 1, 3) := by decide +kernel
theorem dX9_readsBy_48 : decode cX9_readsBy 48 = .ok (.goto (-36), 3) := by decide +kernel
theorem dX9_readsBy_51 : decode cX9_readsBy 51 = .ok (.iload 6, 2) := by decide +kernel
theorem dX9_readsBy_53 : decode cX9_readsBy 53 = .ok (.aload_n 0, 1) := by decide +kernel
theorem dX9_readsBy_54 : decode cX9_readsBy 54 = .ok (.iload_n 1, 1) := by decide +kernel
theorem dX9_readsBy_55 : decode cX9_readsBy 55 = .ok (.invokevirtual 57, 3) := by decide +kernel
theorem dX9_readsBy_58 : decode cX9_readsBy 58 = .ok (.if_icmp .ge 137, 3) := by decide +kernel
theorem dX9_readsBy_61 : decode cX9_readsBy 61 = .ok (.aload_n 0, 1) := by decide +kernel
theorem dX9_readsBy_62 : decode cX9_readsBy 62 = .ok (.iload_n 1, 1) := by decide +kernel
theorem dX9_readsBy_63 : decode cX9_readsBy 63 = .ok (.iload 6, 2) := by decide +kernel
theorem dX9_readsBy_65 : decode cX9_readsBy 65 = .ok (.iload_n 2, 1) := by decide +kernel
theorem dX9_readsBy_66 : decode cX9_readsBy 66 = .ok (.iload_n 3, 1) := by decide +kernel
theorem dX9_readsBy_67 : decode cX9_readsBy 67 = .ok (.invokevirtual 111, 3) := by decide +kernel
theorem dX9_readsBy_70 : decode cX9_readsBy 70 = .ok (.istore 7, 2) := by decide +kernel
theorem dX9_readsBy_72 : decode cX9_readsBy 72 = .ok (.iload 7, 2) := by decide +kernel
theorem dX9_readsBy_74 : decode cX9_readsBy 74 = .ok (.bipush (-99), 2) := by decide +kernel
theorem dX9_readsBy_76 : decode cX9_readsBy 76 = .ok (.if_icmp .ne 7, 3) := by decide +kernel
theorem dX9_readsBy_79 : decode cX9_readsBy 79 = .ok (.iconst 0, 1) := by decide +kernel
theorem dX9_readsBy_80 : decode cX9_readsBy 80 = .ok (.goto 10, 3) := by decide +kernel
theorem dX9_readsBy_83 : decode cX9_readsBy 83 = .ok (.aload_n 0, 1) := by decide +kernel
theorem dX9_readsBy_84 : decode cX9_readsBy 84 = .ok (.iload 7, 2) := by decide +kernel
theorem dX9_readsBy_86 : decode cX9_readsBy 86 = .ok (.iconst 0, 1) := by decide +kernel
theorem dX9_readsBy_87 : decode cX9_readsBy 87 = .ok (.invokevirtual 71, 3) := by decide +kernel
theorem dX9_readsBy_90 : decode cX9_readsBy 90 = .ok (.istore 8, 2) := by decide +kernel
theorem dX9_readsBy_92 : decode cX9_readsBy 92 = .ok (.iconst 0, 1) := by decide +kernel
theorem dX9_readsBy_93 : decode cX9_readsBy 93 = .ok (.istore 9, 2) := by decide +kernel
theorem dX9_readsBy_95 : decode cX9_readsBy 95 = .ok (.iload 9, 2) := by decide +kernel
theorem dX9_readsBy_97 : decode cX9_readsBy 97 = .ok (.iload 8, 2) := by decide +kernel
theorem dX9_readsBy_99 : decode cX9_readsBy 99 = .ok (.if_icmp .ge 33, 3) := by decide +kernel
theorem dX9_readsBy_102 : decode cX9_readsBy 102 = .ok (.aload_n 0, 1) := by decide +kernel
theorem dX9_readsBy_103 : decode cX9_readsBy 103 = .ok (.getfield 28, 3) := by decide +kernel
theorem dX9_readsBy_106 : decode cX9_readsBy 106 = .ok (.iload 6, 2) := by decide +kernel
theorem dX9_readsBy_108 : decode cX9_readsBy 108 = .ok (.iload 9, 2) := by decide +kernel
theorem dX9_readsBy_110 : decode cX9_readsBy 110 = .ok (.iadd, 1) := by decide +kernel
theorem dX9_readsBy_111 : decode cX9_readsBy 111 = .ok (.iload 7, 2) := by decide +kernel
theorem dX9_readsBy_113 : decode cX9_readsBy 113 = .ok (.iastore, 1) := by decide +kernel
theorem dX9_readsBy_114 : decode cX9_readsBy 114 = .ok (.aload_n 0, 1) := by decide +kernel
theorem dX9_readsBy_115 : decode cX9_readsBy 115 = .ok (.getfield 31, 3) := by decide +kernel
theorem dX9_readsBy_118 : decode cX9_readsBy 118 = .ok (.iload 6, 2) := by decide +kernel
theorem dX9_readsBy_120 : decode cX9_readsBy 120 = .ok (.iload 9, 2) := by decide +kernel
theorem dX9_readsBy_122 : decode cX9_readsBy 122 = .ok (.iadd, 1) := by decide +kernel
theorem dX9_readsBy_123 : decode cX9_readsBy 123 = .ok (.iload 9, 2) := by decide +kernel
theorem dX9_readsBy_125 : decode cX9_readsBy 125 = .ok (.iastore, 1) := by decide +kernel
theorem dX9_readsBy_126 : decode cX9_readsBy 126 = .ok (.iinc 9 1, 3) := by decide +kernel
theorem dX9_readsBy_129 : decode cX9_readsBy 129 = .ok (.goto (-34), 3) := by decide +kernel
theorem dX9_readsBy_132 : decode cX9_readsBy 132 = .ok (.iload 8, 2) := by decide +kernel
theorem dX9_readsBy_134 : decode cX9_readsBy 134 = .ok (.ifCond .le 42, 3) := by decide +kernel
theorem dX9_readsBy_137 : decode cX9_readsBy 137 = .ok (.aload_n 0, 1) := by decide +kernel
theorem dX9_readsBy_138 : decode cX9_readsBy 138 = .ok (.iload 7, 2) := by decide +kernel
theorem dX9_readsBy_140 : decode cX9_readsBy 140 = .ok (.invokevirtual 115, 3) := by decide +kernel
theorem dX9_readsBy_143 : decode cX9_readsBy 143 = .ok (.ifCond .ne 33, 3) := by decide +kernel
theorem dX9_readsBy_146 : decode cX9_readsBy 146 = .ok (.iload 5, 2) := by decide +kernel
theorem dX9_readsBy_148 : decode cX9_readsBy 148 = .ok (.iload 7, 2) := by decide +kernel
theorem dX9_readsBy_150 : decode cX9_readsBy 150 = .ok (.ishr, 1) := by decide +kernel
theorem dX9_readsBy_151 : decode cX9_readsBy 151 = .ok (.iconst 1, 1) := by decide +kernel
theorem dX9_readsBy_152 : decode cX9_readsBy 152 = .ok (.iand, 1) := by decide +kernel
theorem dX9_readsBy_153 : decode cX9_readsBy 153 = .ok (.ifCond .ne 23, 3) := by decide +kernel
theorem dX9_readsBy_156 : decode cX9_readsBy 156 = .ok (.iload 5, 2) := by decide +kernel
theorem dX9_readsBy_158 : decode cX9_readsBy 158 = .ok (.iconst 1, 1) := by decide +kernel
theorem dX9_readsBy_159 : decode cX9_readsBy 159 = .ok (.iload 7, 2) := by decide +kernel
theorem dX9_readsBy_161 : decode cX9_readsBy 161 = .ok (.ishl, 1) := by decide +kernel
theorem dX9_readsBy_162 : decode cX9_readsBy 162 = .ok (.ior, 1) := by decide +kernel
theorem dX9_readsBy_163 : decode cX9_readsBy 163 = .ok (.istore 5, 2) := by decide +kernel
theorem dX9_readsBy_165 : decode cX9_readsBy 165 = .ok (.aload_n 0, 1) := by decide +kernel
theorem dX9_readsBy_166 : decode cX9_readsBy 166 = .ok (.getfield 34, 3) := by decide +kernel
theorem dX9_readsBy_169 : decode cX9_readsBy 169 = .ok (.iload 6, 2) := by decide +kernel
theorem dX9_readsBy_171 : decode cX9_readsBy 171 = .ok (.iconst 1, 1) := by decide +kernel
theorem dX9_readsBy_172 : decode cX9_readsBy 172 = .ok (.bastore, 1) := by decide +kernel
theorem dX9_readsBy_173 : decode cX9_readsBy 173 = .ok (.iinc 4 1, 3) := by decide +kernel
theorem dX9_readsBy_176 : decode cX9_readsBy 176 = .ok (.iload 6, 2) := by decide +kernel
theorem dX9_readsBy_178 : decode cX9_readsBy 178 = .ok (.iload 8, 2) := by decide +kernel
theorem dX9_readsBy_180 : decode cX9_readsBy 180 = .ok (.ifCond .le 8, 3) := by decide +kernel
theorem dX9_readsBy_183 : decode cX9_readsBy 183 = .ok (.iload 8, 2) := by decide +kernel
theorem dX9_readsBy_185 : decode cX9_readsBy 185 = .ok (.goto 4, 3) := by decide +kernel
theorem dX9_readsBy_188 : decode cX9_readsBy 188 = .ok (.iconst 1, 1) := by decide +kernel
theorem dX9_readsBy_189 : decode cX9_readsBy 189 = .ok (.iadd, 1) := by decide +kernel
theorem dX9_readsBy_190 : decode cX9_readsBy 190 = .ok (.istore 6, 2) := by decide +kernel
theorem dX9_readsBy_192 : decode cX9_readsBy 192 = .ok (.goto (-141), 3) := by decide +kernel
theorem dX9_readsBy_195 : decode cX9_readsBy 195 = .ok (.iload 4, 2) := by decide +kernel
theorem dX9_readsBy_197 : decode cX9_readsBy 197 = .ok (.ireturn, 1) := by decide +kernel
theorem dX9_reads_0 : decode cX9_reads 0 = .ok (.aload_n 0, 1) := by decide +kernel
theorem dX9_reads_1 : decode cX9_reads 1 = .ok (.iload_n 1, 1) := by decide +kernel
theorem dX9_reads_2 : decode cX9_reads 2 = .ok (.iconst (-1), 1) := by decide +kernel
theorem dX9_reads_3 : decode cX9_reads 3 = .ok (.iconst 0, 1) := by decide +kernel
theorem dX9_reads_4 : decode cX9_reads 4 = .ok (.invokevirtual 118, 3) := by decide +kernel
theorem dX9_reads_7 : decode cX9_reads 7 = .ok (.ireturn, 1) := by decide +kernel
theorem dX9_allMarks_0 : decode cX9_allMarks 0 = .ok (.iconst 0, 1) := by decide +kernel
theorem dX9_allMarks_1 : decode cX9_allMarks 1 = .ok (.istore_n 2, 1) := by decide +kernel
theorem dX9_allMarks_2 : decode cX9_allMarks 2 = .ok (.iconst 0, 1) := by decide +kernel
theorem dX9_allMarks_3 : decode cX9_allMarks 3 = .ok (.istore_n 3, 1) := by decide +kernel
theorem dX9_allMarks_4 : decode cX9_allMarks 4 = .ok (.iload_n 3, 1) := by decide +kernel
theorem dX9_allMarks_5 : decode cX9_allMarks 5 = .ok (.bipush 6, 2) := by decide +kernel
theorem dX9_allMarks_7 : decode cX9_allMarks 7 = .ok (.if_icmp .ge 19, 3) := by decide +kernel
theorem dX9_allMarks_10 : decode cX9_allMarks 10 = .ok (.iload_n 2, 1) := by decide +kernel
theorem dX9_allMarks_11 : decode cX9_allMarks 11 = .ok (.aload_n 0, 1) := by decide +kernel
theorem dX9_allMarks_12 : decode cX9_allMarks 12 = .ok (.iload_n 3, 1) := by decide +kernel
theorem dX9_allMarks_13 : decode cX9_allMarks 13 = .ok (.iload_n 1, 1) := by decide +kernel
theorem dX9_allMarks_14 : decode cX9_allMarks 14 = .ok (.iconst 0, 1) := by decide +kernel
theorem dX9_allMarks_15 : decode cX9_allMarks 15 = .ok (.invokevirtual 118, 3) := by decide +kernel
theorem dX9_allMarks_18 : decode cX9_allMarks 18 = .ok (.iadd, 1) := by decide +kernel
theorem dX9_allMarks_19 : decode cX9_allMarks 19 = .ok (.istore_n 2, 1) := by decide +kernel
theorem dX9_allMarks_20 : decode cX9_allMarks 20 = .ok (.iinc 3 1, 3) := by decide +kernel
theorem dX9_allMarks_23 : decode cX9_allMarks 23 = .ok (.goto (-19), 3) := by decide +kernel
theorem dX9_allMarks_26 : decode cX9_allMarks 26 = .ok (.iload_n 2, 1) := by decide +kernel
theorem dX9_allMarks_27 : decode cX9_allMarks 27 = .ok (.ireturn, 1) := by decide +kernel
theorem dX9_readings_0 : decode cX9_readings 0 = .ok (.iconst 0, 1) := by decide +kernel
theorem dX9_readings_1 : decode cX9_readings 1 = .ok (.istore_n 2, 1) := by decide +kernel
theorem dX9_readings_2 : decode cX9_readings 2 = .ok (.iconst 0, 1) := by decide +kernel
theorem dX9_readings_3 : decode cX9_readings 3 = .ok (.istore_n 3, 1) := by decide +kernel
theorem dX9_readings_4 : decode cX9_readings 4 = .ok (.iload_n 3, 1) := by decide +kernel
theorem dX9_readings_5 : decode cX9_readings 5 = .ok (.bipush 6, 2) := by decide +kernel
theorem dX9_readings_7 : decode cX9_readings 7 = .ok (.if_icmp .ge 72, 3) := by decide +kernel
theorem dX9_readings_10 : decode cX9_readings 10 = .ok (.aload_n 0, 1) := by decide +kernel
theorem dX9_readings_11 : decode cX9_readings 11 = .ok (.iload_n 3, 1) := by decide +kernel
theorem dX9_readings_12 : decode cX9_readings 12 = .ok (.invokevirtual 122, 3) := by decide +kernel
theorem dX9_readings_15 : decode cX9_readings 15 = .ok (.istore 4, 2) := by decide +kernel
theorem dX9_readings_17 : decode cX9_readings 17 = .ok (.iconst 0, 1) := by decide +kernel
theorem dX9_readings_18 : decode cX9_readings 18 = .ok (.istore 5, 2) := by decide +kernel
theorem dX9_readings_20 : decode cX9_readings 20 = .ok (.iload 5, 2) := by decide +kernel
theorem dX9_readings_22 : decode cX9_readings 22 = .ok (.bipush 40, 2) := by decide +kernel
theorem dX9_readings_24 : decode cX9_readings 24 = .ok (.if_icmp .ge 49, 3) := by decide +kernel
theorem dX9_readings_27 : decode cX9_readings 27 = .ok (.iload 4, 2) := by decide +kernel
theorem dX9_readings_29 : decode cX9_readings 29 = .ok (.ifCond .lt 44, 3) := by decide +kernel
theorem dX9_readings_32 : decode cX9_readings 32 = .ok (.iload_n 2, 1) := by decide +kernel
theorem dX9_readings_33 : decode cX9_readings 33 = .ok (.aload_n 0, 1) := by decide +kernel
theorem dX9_readings_34 : decode cX9_readings 34 = .ok (.getfield 31, 3) := by decide +kernel
theorem dX9_readings_37 : decode cX9_readings 37 = .ok (.iload 5, 2) := by decide +kernel
theorem dX9_readings_39 : decode cX9_readings 39 = .ok (.iaload, 1) := by decide +kernel
theorem dX9_readings_40 : decode cX9_readings 40 = .ok (.ifCond .ne 24, 3) := by decide +kernel
theorem dX9_readings_43 : decode cX9_readings 43 = .ok (.iload_n 1, 1) := by decide +kernel
theorem dX9_readings_44 : decode cX9_readings 44 = .ok (.bipush (-99), 2) := by decide +kernel
theorem dX9_readings_46 : decode cX9_readings 46 = .ok (.if_icmp .eq 14, 3) := by decide +kernel
theorem dX9_readings_49 : decode cX9_readings 49 = .ok (.aload_n 0, 1) := by decide +kernel
theorem dX9_readings_50 : decode cX9_readings 50 = .ok (.getfield 28, 3) := by decide +kernel
theorem dX9_readings_53 : decode cX9_readings 53 = .ok (.iload 5, 2) := by decide +kernel
theorem dX9_readings_55 : decode cX9_readings 55 = .ok (.iaload, 1) := by decide +kernel
theorem dX9_readings_56 : decode cX9_readings 56 = .ok (.iload_n 1, 1) := by decide +kernel
theorem dX9_readings_57 : decode cX9_readings 57 = .ok (.if_icmp .ne 7, 3) := by decide +kernel
theorem dX9_readings_60 : decode cX9_readings 60 = .ok (.iconst 1, 1) := by decide +kernel
theorem dX9_readings_61 : decode cX9_readings 61 = .ok (.goto 4, 3) := by decide +kernel
theorem dX9_readings_64 : decode cX9_readings 64 = .ok (.iconst 0, 1) := by decide +kernel
theorem dX9_readings_65 : decode cX9_readings 65 = .ok (.iadd, 1) := by decide +kernel
theorem dX9_readings_66 : decode cX9_readings 66 = .ok (.istore_n 2, 1) := by decide +kernel
theorem dX9_readings_67 : decode cX9_readings 67 = .ok (.iinc 5 1, 3) := by decide +kernel
theorem dX9_readings_70 : decode cX9_readings 70 = .ok (.goto (-50), 3) := by decide +kernel
theorem dX9_readings_73 : decode cX9_readings 73 = .ok (.iinc 3 1, 3) := by decide +kernel
theorem dX9_readings_76 : decode cX9_readings 76 = .ok (.goto (-72), 3) := by decide +kernel
theorem dX9_readings_79 : decode cX9_readings 79 = .ok (.iload_n 2, 1) := by decide +kernel
theorem dX9_readings_80 : decode cX9_readings 80 = .ok (.ireturn, 1) := by decide +kernel
theorem dX9_append_0 : decode cX9_append 0 = .ok (.iload_n 1, 1) := by decide +kernel
theorem dX9_append_1 : decode cX9_append 1 = .ok (.iconst 1, 1) := by decide +kernel
theorem dX9_append_2 : decode cX9_append 2 = .ok (.sipush 255, 3) := by decide +kernel
theorem dX9_append_5 : decode cX9_append 5 = .ok (.invokestatic 45, 3) := by decide +kernel
theorem dX9_append_8 : decode cX9_append 8 = .ok (.ifCond .ne 5, 3) := by decide +kernel
theorem dX9_append_11 : decode cX9_append 11 = .ok (.iconst (-1), 1) := by decide +kernel
theorem dX9_append_12 : decode cX9_append 12 = .ok (.ireturn, 1) := by decide +kernel
theorem dX9_append_13 : decode cX9_append 13 = .ok (.aload_n 0, 1) := by decide +kernel
theorem dX9_append_14 : decode cX9_append 14 = .ok (.getfield 125, 3) := by decide +kernel
theorem dX9_append_17 : decode cX9_append 17 = .ok (.sipush 140, 3) := by decide +kernel
theorem dX9_append_20 : decode cX9_append 20 = .ok (.if_icmp .ne 6, 3) := by decide +kernel
theorem dX9_append_23 : decode cX9_append 23 = .ok (.bipush (-3), 2) := by decide +kernel
theorem dX9_append_25 : decode cX9_append 25 = .ok (.ireturn, 1) := by decide +kernel
theorem dX9_append_26 : decode cX9_append 26 = .ok (.aload_n 0, 1) := by decide +kernel
theorem dX9_append_27 : decode cX9_append 27 = .ok (.getfield 19, 3) := by decide +kernel
theorem dX9_append_30 : decode cX9_append 30 = .ok (.aload_n 0, 1) := by decide +kernel
theorem dX9_append_31 : decode cX9_append 31 = .ok (.getfield 125, 3) := by decide +kernel
theorem dX9_append_34 : decode cX9_append 34 = .ok (.iload_n 1, 1) := by decide +kernel
theorem dX9_append_35 : decode cX9_append 35 = .ok (.iastore, 1) := by decide +kernel
theorem dX9_append_36 : decode cX9_append 36 = .ok (.aload_n 0, 1) := by decide +kernel
theorem dX9_append_37 : decode cX9_append 37 = .ok (.dup, 1) := by decide +kernel
theorem dX9_append_38 : decode cX9_append 38 = .ok (.getfield 125, 3) := by decide +kernel
theorem dX9_append_41 : decode cX9_append 41 = .ok (.iconst 1, 1) := by decide +kernel
theorem dX9_append_42 : decode cX9_append 42 = .ok (.iadd, 1) := by decide +kernel
theorem dX9_append_43 : decode cX9_append 43 = .ok (.putfield 125, 3) := by decide +kernel
theorem dX9_append_46 : decode cX9_append 46 = .ok (.aload_n 0, 1) := by decide +kernel
theorem dX9_append_47 : decode cX9_append 47 = .ok (.getfield 125, 3) := by decide +kernel
theorem dX9_append_50 : decode cX9_append 50 = .ok (.ireturn, 1) := by decide +kernel
theorem dX9_clearText_0 : decode cX9_clearText 0 = .ok (.aload_n 0, 1) := by decide +kernel
theorem dX9_clearText_1 : decode cX9_clearText 1 = .ok (.getfield 125, 3) := by decide +kernel
theorem dX9_clearText_4 : decode cX9_clearText 4 = .ok (.istore_n 1, 1) := by decide +kernel
theorem dX9_clearText_5 : decode cX9_clearText 5 = .ok (.aload_n 0, 1) := by decide +kernel
theorem dX9_clearText_6 : decode cX9_clearText 6 = .ok (.iconst 0, 1) := by decide +kernel
theorem dX9_clearText_7 : decode cX9_clearText 7 = .ok (.putfield 125, 3) := by decide +kernel
theorem dX9_clearText_10 : decode cX9_clearText 10 = .ok (.iload_n 1, 1) := by decide +kernel
theorem dX9_clearText_11 : decode cX9_clearText 11 = .ok (.ireturn, 1) := by decide +kernel
theorem dX9_isLetter_0 : decode cX9_isLetter 0 = .ok (.iload_n 1, 1) := by decide +kernel
theorem dX9_isLetter_1 : decode cX9_isLetter 1 = .ok (.aload_n 0, 1) := by decide +kernel
theorem dX9_isLetter_2 : decode cX9_isLetter 2 = .ok (.getfield 125, 3) := by decide +kernel
theorem dX9_isLetter_5 : decode cX9_isLetter 5 = .ok (.if_icmp .ge 23, 3) := by decide +kernel
theorem dX9_isLetter_8 : decode cX9_isLetter 8 = .ok (.aload_n 0, 1) := by decide +kernel
theorem dX9_isLetter_9 : decode cX9_isLetter 9 = .ok (.getfield 19, 3) := by decide +kernel
theorem dX9_isLetter_12 : decode cX9_isLetter 12 = .ok (.iload_n 1, 1) := by decide +kernel
theorem dX9_isLetter_13 : decode cX9_isLetter 13 = .ok (.iaload, 1) := by decide +kernel
theorem dX9_isLetter_14 : decode cX9_isLetter 14 = .ok (.bipush 97, 2) := by decide +kernel
theorem dX9_isLetter_16 : decode cX9_isLetter 16 = .ok (.bipush 122, 2) := by decide +kernel
theorem dX9_isLetter_18 : decode cX9_isLetter 18 = .ok (.invokestatic 45, 3) := by decide +kernel
theorem dX9_isLetter_21 : decode cX9_isLetter 21 = .ok (.ifCond .eq 7, 3) := by decide +kernel
theorem dX9_isLetter_24 : decode cX9_isLetter 24 = .ok (.iconst 1, 1) := by decide +kernel
theorem dX9_isLetter_25 : decode cX9_isLetter 25 = .ok (.goto 4, 3) := by decide +kernel
theorem dX9_isLetter_28 : decode cX9_isLetter 28 = .ok (.iconst 0, 1) := by decide +kernel
theorem dX9_isLetter_29 : decode cX9_isLetter 29 = .ok (.ireturn, 1) := by decide +kernel
theorem dX9_token_0 : decode cX9_token 0 = .ok (.aload_n 0, 1) := by decide +kernel
theorem dX9_token_1 : decode cX9_token 1 = .ok (.aload_n 0, 1) := by decide +kernel
theorem dX9_token_2 : decode cX9_token 2 = .ok (.getfield 128, 3) := by decide +kernel
theorem dX9_token_5 : decode cX9_token 5 = .ok (.putfield 131, 3) := by decide +kernel
theorem dX9_token_8 : decode cX9_token 8 = .ok (.aload_n 0, 1) := by decide +kernel
theorem dX9_token_9 : decode cX9_token 9 = .ok (.getfield 131, 3) := by decide +kernel
theorem dX9_token_12 : decode cX9_token 12 = .ok (.aload_n 0, 1) := by decide +kernel
theorem dX9_token_13 : decode cX9_token 13 = .ok (.getfield 125, 3) := by decide +kernel
theorem dX9_token_16 : decode cX9_token 16 = .ok (.if_icmp .ge 30, 3) := by decide +kernel
theorem dX9_token_19 : decode cX9_token 19 = .ok (.aload_n 0, 1) := by decide +kernel
theorem dX9_token_20 : decode cX9_token 20 = .ok (.getfield 19, 3) := by decide +kernel
theorem dX9_token_23 : decode cX9_token 23 = .ok (.aload_n 0, 1) := by decide +kernel
theorem dX9_token_24 : decode cX9_token 24 = .ok (.getfield 131, 3) := by decide +kernel
theorem dX9_token_27 : decode cX9_token 27 = .ok (.iaload, 1) := by decide +kernel
theorem dX9_token_28 : decode cX9_token 28 = .ok (.bipush 32, 2) := by decide +kernel
theorem dX9_token_30 : decode cX9_token 30 = .ok (.if_icmp .ne 16, 3) := by decide +kernel
theorem dX9_token_33 : decode cX9_token 33 = .ok (.aload_n 0, 1) := by decide +kernel
theorem dX9_token_34 : decode cX9_token 34 = .ok (.dup, 1) := by decide +kernel
theorem dX9_token_35 : decode cX9_token 35 = .ok (.getfield 131, 3) := by decide +kernel
theorem dX9_token_38 : decode cX9_token 38 = .ok (.iconst 1, 1) := by decide +kernel
theorem dX9_token_39 : decode cX9_token 39 = .ok (.iadd, 1) := by decide +kernel
theorem dX9_token_40 : decode cX9_token 40 = .ok (.putfield 131, 3) := by decide +kernel
theorem dX9_token_43 : decode cX9_token 43 = .ok (.goto (-35), 3) := by decide +kernel
theorem dX9_token_46 : decode cX9_token 46 = .ok (.aload_n 0, 1) := by decide +kernel
theorem dX9_token_47 : decode cX9_token 47 = .ok (.aload_n 0, 1) := by decide +kernel
theorem dX9_token_48 : decode cX9_token 48 = .ok (.getfield 131, 3) := by decide +kernel
theorem dX9_token_51 : decode cX9_token 51 = .ok (.putfield 128, 3) := by decide +kernel
theorem dX9_token_54 : decode cX9_token 54 = .ok (.aload_n 0, 1) := by decide +kernel
theorem dX9_token_55 : decode cX9_token 55 = .ok (.aload_n 0, 1) := by decide +kernel
theorem dX9_token_56 : decode cX9_token 56 = .ok (.getfield 128, 3) := by decide +kernel
theorem dX9_token_59 : decode cX9_token 59 = .ok (.invokevirtual 134, 3) := by decide +kernel
theorem dX9_token_62 : decode cX9_token 62 = .ok (.ifCond .eq 16, 3) := by decide +kernel
theorem dX9_token_65 : decode cX9_token 65 = .ok (.aload_n 0, 1) := by decide +kernel
theorem dX9_token_66 : decode cX9_token 66 = .ok (.dup, 1) := by decide +kernel
theorem dX9_token_67 : decode cX9_token 67 = .ok (.getfield 128, 3) := by decide +kernel
theorem dX9_token_70 : decode cX9_token 70 = .ok (.iconst 1, 1) := by decide +kernel
theorem dX9_token_71 : decode cX9_token 71 = .ok (.iadd, 1) := by decide +kernel
theorem dX9_token_72 : decode cX9_token 72 = .ok (.putfield 128, 3) := by decide +kernel
theorem dX9_token_75 : decode cX9_token 75 = .ok (.goto (-21), 3) := by decide +kernel
theorem dX9_token_78 : decode cX9_token 78 = .ok (.aload_n 0, 1) := by decide +kernel
theorem dX9_token_79 : decode cX9_token 79 = .ok (.aload_n 0, 1) := by decide +kernel
theorem dX9_token_80 : decode cX9_token 80 = .ok (.getfield 128, 3) := by decide +kernel
theorem dX9_token_83 : decode cX9_token 83 = .ok (.aload_n 0, 1) := by decide +kernel
theorem dX9_token_84 : decode cX9_token 84 = .ok (.getfield 131, 3) := by decide +kernel
theorem dX9_token_87 : decode cX9_token 87 = .ok (.if_icmp .ne 23, 3) := by decide +kernel
theorem dX9_token_90 : decode cX9_token 90 = .ok (.aload_n 0, 1) := by decide +kernel
theorem dX9_token_91 : decode cX9_token 91 = .ok (.getfield 131, 3) := by decide +kernel
theorem dX9_token_94 : decode cX9_token 94 = .ok (.aload_n 0, 1) := by decide +kernel
theorem dX9_token_95 : decode cX9_token 95 = .ok (.getfield 125, 3) := by decide +kernel
theorem dX9_token_98 : decode cX9_token 98 = .ok (.if_icmp .ge 12, 3) := by decide +kernel
theorem dX9_token_101 : decode cX9_token 101 = .ok (.aload_n 0, 1) := by decide +kernel
theorem dX9_token_102 : decode cX9_token 102 = .ok (.getfield 131, 3) := by decide +kernel
theorem dX9_token_105 : decode cX9_token 105 = .ok (.iconst 1, 1) := by decide +kernel
theorem dX9_token_106 : decode cX9_token 106 = .ok (.iadd, 1) := by decide +kernel
theorem dX9_token_107 : decode cX9_token 107 = .ok (.goto 7, 3) := by decide +kernel
theorem dX9_token_110 : decode cX9_token 110 = .ok (.aload_n 0, 1) := by decide +kernel
theorem dX9_token_111 : decode cX9_token 111 = .ok (.getfield 128, 3) := by decide +kernel
theorem dX9_token_114 : decode cX9_token 114 = .ok (.putfield 128, 3) := by decide +kernel
theorem dX9_token_117 : decode cX9_token 117 = .ok (.return_, 1) := by decide +kernel
theorem dX9_isRun_0 : decode cX9_isRun 0 = .ok (.aload_n 0, 1) := by decide +kernel
theorem dX9_isRun_1 : decode cX9_isRun 1 = .ok (.getfield 131, 3) := by decide +kernel
theorem dX9_isRun_4 : decode cX9_isRun 4 = .ok (.aload_n 0, 1) := by decide +kernel
theorem dX9_isRun_5 : decode cX9_isRun 5 = .ok (.getfield 128, 3) := by decide +kernel
theorem dX9_isRun_8 : decode cX9_isRun 8 = .ok (.if_icmp .ge 18, 3) := by decide +kernel
theorem dX9_isRun_11 : decode cX9_isRun 11 = .ok (.aload_n 0, 1) := by decide +kernel
theorem dX9_isRun_12 : decode cX9_isRun 12 = .ok (.aload_n 0, 1) := by decide +kernel
theorem dX9_isRun_13 : decode cX9_isRun 13 = .ok (.getfield 131, 3) := by decide +kernel
theorem dX9_isRun_16 : decode cX9_isRun 16 = .ok (.invokevirtual 134, 3) := by decide +kernel
theorem dX9_isRun_19 : decode cX9_isRun 19 = .ok (.ifCond .eq 7, 3) := by decide +kernel
theorem dX9_isRun_22 : decode cX9_isRun 22 = .ok (.iconst 1, 1) := by decide +kernel
theorem dX9_isRun_23 : decode cX9_isRun 23 = .ok (.goto 4, 3) := by decide +kernel
theorem dX9_isRun_26 : decode cX9_isRun 26 = .ok (.iconst 0, 1) := by decide +kernel
theorem dX9_isRun_27 : decode cX9_isRun 27 = .ok (.ireturn, 1) := by decide +kernel
theorem dX9_isSign_0 : decode cX9_isSign 0 = .ok (.aload_n 0, 1) := by decide +kernel
theorem dX9_isSign_1 : decode cX9_isSign 1 = .ok (.getfield 128, 3) := by decide +kernel
theorem dX9_isSign_4 : decode cX9_isSign 4 = .ok (.aload_n 0, 1) := by decide +kernel
theorem dX9_isSign_5 : decode cX9_isSign 5 = .ok (.getfield 131, 3) := by decide +kernel
theorem dX9_isSign_8 : decode cX9_isSign 8 = .ok (.iconst 1, 1) := by decide +kernel
theorem dX9_isSign_9 : decode cX9_isSign 9 = .ok (.iadd, 1) := by decide +kernel
theorem dX9_isSign_10 : decode cX9_isSign 10 = .ok (.if_icmp .ne 20, 3) := by decide +kernel
theorem dX9_isSign_13 : decode cX9_isSign 13 = .ok (.aload_n 0, 1) := by decide +kernel
theorem dX9_isSign_14 : decode cX9_isSign 14 = .ok (.getfield 19, 3) := by decide +kernel
theorem dX9_isSign_17 : decode cX9_isSign 17 = .ok (.aload_n 0, 1) := by decide +kernel
theorem dX9_isSign_18 : decode cX9_isSign 18 = .ok (.getfield 131, 3) := by decide +kernel
theorem dX9_isSign_21 : decode cX9_isSign 21 = .ok (.iaload, 1) := by decide +kernel
theorem dX9_isSign_22 : decode cX9_isSign 22 = .ok (.iload_n 1, 1) := by decide +kernel
theorem dX9_isSign_23 : decode cX9_isSign 23 = .ok (.if_icmp .ne 7, 3) := by decide +kernel
theorem dX9_isSign_26 : decode cX9_isSign 26 = .ok (.iconst 1, 1) := by decide +kernel
theorem dX9_isSign_27 : decode cX9_isSign 27 = .ok (.goto 4, 3) := by decide +kernel
theorem dX9_isSign_30 : decode cX9_isSign 30 = .ok (.iconst 0, 1) := by decide +kernel
theorem dX9_isSign_31 : decode cX9_isSign 31 = .ok (.ireturn, 1) := by decide +kernel
theorem dX9_isName_0 : decode cX9_isName 0 = .ok (.iload_n 3, 1) := by decide +kernel
theorem dX9_isName_1 : decode cX9_isName 1 = .ok (.ifCond .ne 7, 3) := by decide +kernel
theorem dX9_isName_4 : decode cX9_isName 4 = .ok (.iconst 2, 1) := by decide +kernel
theorem dX9_isName_5 : decode cX9_isName 5 = .ok (.goto 4, 3) := by decide +kernel
theorem dX9_isName_8 : decode cX9_isName 8 = .ok (.iconst 4, 1) := by decide +kernel
theorem dX9_isName_9 : decode cX9_isName 9 = .ok (.istore 5, 2) := by decide +kernel
theorem dX9_isName_11 : decode cX9_isName 11 = .ok (.aload_n 0, 1) := by decide +kernel
theorem dX9_isName_12 : decode cX9_isName 12 = .ok (.invokevirtual 137, 3) := by decide +kernel
theorem dX9_isName_15 : decode cX9_isName 15 = .ok (.ifCond .eq 86, 3) := by decide +kernel
theorem dX9_isName_18 : decode cX9_isName 18 = .ok (.aload_n 0, 1) := by decide +kernel
theorem dX9_isName_19 : decode cX9_isName 19 = .ok (.getfield 128, 3) := by decide +kernel
theorem dX9_isName_22 : decode cX9_isName 22 = .ok (.aload_n 0, 1) := by decide +kernel
theorem dX9_isName_23 : decode cX9_isName 23 = .ok (.getfield 131, 3) := by decide +kernel
theorem dX9_isName_26 : decode cX9_isName 26 = .ok (.isub, 1) := by decide +kernel
theorem dX9_isName_27 : decode cX9_isName 27 = .ok (.iload 5, 2) := by decide +kernel
theorem dX9_isName_29 : decode cX9_isName 29 = .ok (.if_icmp .ne 72, 3) := by decide +kernel
theorem dX9_isName_32 : decode cX9_isName 32 = .ok (.aload_n 0, 1) := by decide +kernel
theorem dX9_isName_33 : decode cX9_isName 33 = .ok (.getfield 19, 3) := by decide +kernel
theorem dX9_isName_36 : decode cX9_isName 36 = .ok (.aload_n 0, 1) := by decide +kernel
theorem dX9_isName_37 : decode cX9_isName 37 = .ok (.getfield 131, 3) := by decide +kernel
theorem dX9_isName_40 : decode cX9_isName 40 = .ok (.iaload, 1) := by decide +kernel
theorem dX9_isName_41 : decode cX9_isName 41 = .ok (.iload_n 1, 1) := by decide +kernel
theorem dX9_isName_42 : decode cX9_isName 42 = .ok (.if_icmp .ne 59, 3) := by decide +kernel
theorem dX9_isName_45 : decode cX9_isName 45 = .ok (.aload_n 0, 1) := by decide +kernel
theorem dX9_isName_46 : decode cX9_isName 46 = .ok (.getfield 19, 3) := by decide +kernel
theorem dX9_isName_49 : decode cX9_isName 49 = .ok (.aload_n 0, 1) := by decide +kernel
theorem dX9_isName_50 : decode cX9_isName 50 = .ok (.getfield 131, 3) := by decide +kernel
theorem dX9_isName_53 : decode cX9_isName 53 = .ok (.iconst 1, 1) := by decide +kernel
theorem dX9_isName_54 : decode cX9_isName 54 = .ok (.iadd, 1) := by decide +kernel
theorem dX9_isName_55 : decode cX9_isName 55 = .ok (.iaload, 1) := by decide +kernel
theorem dX9_isName_56 : decode cX9_isName 56 = .ok (.iload_n 2, 1) := by decide +kernel
theorem dX9_isName_57 : decode cX9_isName 57 = .ok (.if_icmp .ne 44, 3) := by decide +kernel
theorem dX9_isName_60 : decode cX9_isName 60 = .ok (.iload 5, 2) := by decide +kernel
theorem dX9_isName_62 : decode cX9_isName 62 = .ok (.iconst 2, 1) := by decide +kernel
theorem dX9_isName_63 : decode cX9_isName 63 = .ok (.if_icmp .eq 34, 3) := by decide +kernel
theorem dX9_isName_66 : decode cX9_isName 66 = .ok (.aload_n 0, 1) := by decide +kernel
theorem dX9_isName_67 : decode cX9_isName 67 = .ok (.getfield 19, 3) := by decide +kernel
theorem dX9_isName_70 : decode cX9_isName 70 = .ok (.aload_n 0, 1) := by decide +kernel
theorem dX9_isName_71 : decode cX9_isName 71 = .ok (.getfield 131, 3) := by decide +kernel
theorem dX9_isName_74 : decode cX9_isName 74 = .ok (.iconst 2, 1) := by decide +kernel
theorem dX9_isName_75 : decode cX9_isName 75 = .ok (.iadd, 1) := by decide +kernel
theorem dX9_isName_76 : decode cX9_isName 76 = .ok (.iaload, 1) := by decide +kernel
theorem dX9_isName_77 : decode cX9_isName 77 = .ok (.iload_n 3, 1) := by decide +kernel
theorem dX9_isName_78 : decode cX9_isName 78 = .ok (.if_icmp .ne 23, 3) := by decide +kernel
theorem dX9_isName_81 : decode cX9_isName 81 = .ok (.aload_n 0, 1) := by decide +kernel
theorem dX9_isName_82 : decode cX9_isName 82 = .ok (.getfield 19, 3) := by decide +kernel
theorem dX9_isName_85 : decode cX9_isName 85 = .ok (.aload_n 0, 1) := by decide +kernel
theorem dX9_isName_86 : decode cX9_isName 86 = .ok (.getfield 131, 3) := by decide +kernel
theorem dX9_isName_89 : decode cX9_isName 89 = .ok (.iconst 3, 1) := by decide +kernel
theorem dX9_isName_90 : decode cX9_isName 90 = .ok (.iadd, 1) := by decide +kernel
theorem dX9_isName_91 : decode cX9_isName 91 = .ok (.iaload, 1) := by decide +kernel
theorem dX9_isName_92 : decode cX9_isName 92 = .ok (.iload 4, 2) := by decide +kernel
theorem dX9_isName_94 : decode cX9_isName 94 = .ok (.if_icmp .ne 7, 3) := by decide +kernel
theorem dX9_isName_97 : decode cX9_isName 97 = .ok (.iconst 1, 1) := by decide +kernel
theorem dX9_isName_98 : decode cX9_isName 98 = .ok (.goto 4, 3) := by decide +kernel
theorem dX9_isName_101 : decode cX9_isName 101 = .ok (.iconst 0, 1) := by decide +kernel
theorem dX9_isName_102 : decode cX9_isName 102 = .ok (.ireturn, 1) := by decide +kernel
theorem dX9_isLike_0 : decode cX9_isLike 0 = .ok (.iconst 1, 1) := by decide +kernel
theorem dX9_isLike_1 : decode cX9_isLike 1 = .ok (.istore_n 2, 1) := by decide +kernel
theorem dX9_isLike_2 : decode cX9_isLike 2 = .ok (.iconst 0, 1) := by decide +kernel
theorem dX9_isLike_3 : decode cX9_isLike 3 = .ok (.istore_n 3, 1) := by decide +kernel
theorem dX9_isLike_4 : decode cX9_isLike 4 = .ok (.iload_n 3, 1) := by decide +kernel
theorem dX9_isLike_5 : decode cX9_isLike 5 = .ok (.bipush 8, 2) := by decide +kernel
theorem dX9_isLike_7 : decode cX9_isLike 7 = .ok (.if_icmp .ge 61, 3) := by decide +kernel
theorem dX9_isLike_10 : decode cX9_isLike 10 = .ok (.iload_n 2, 1) := by decide +kernel
theorem dX9_isLike_11 : decode cX9_isLike 11 = .ok (.ifCond .eq 57, 3) := by decide +kernel
theorem dX9_isLike_14 : decode cX9_isLike 14 = .ok (.aload_n 0, 1) := by decide +kernel
theorem dX9_isLike_15 : decode cX9_isLike 15 = .ok (.getfield 22, 3) := by decide +kernel
theorem dX9_isLike_18 : decode cX9_isLike 18 = .ok (.bipush 8, 2) := by decide +kernel
theorem dX9_isLike_20 : decode cX9_isLike 20 = .ok (.iload_n 1, 1) := by decide +kernel
theorem dX9_isLike_21 : decode cX9_isLike 21 = .ok (.imul, 1) := by decide +kernel
theorem dX9_isLike_22 : decode cX9_isLike 22 = .ok (.iload_n 3, 1) := by decide +kernel
theorem dX9_isLike_23 : decode cX9_isLike 23 = .ok (.iadd, 1) := by decide +kernel
theorem dX9_isLike_24 : decode cX9_isLike 24 = .ok (.iaload, 1) := by decide +kernel
theorem dX9_isLike_25 : decode cX9_isLike 25 = .ok (.aload_n 0, 1) := by decide +kernel
theorem dX9_isLike_26 : decode cX9_isLike 26 = .ok (.getfield 131, 3) := by decide +kernel
theorem dX9_isLike_29 : decode cX9_isLike 29 = .ok (.iload_n 3, 1) := by decide +kernel
theorem dX9_isLike_30 : decode cX9_isLike 30 = .ok (.iadd, 1) := by decide +kernel
theorem dX9_isLike_31 : decode cX9_isLike 31 = .ok (.aload_n 0, 1) := by decide +kernel
theorem dX9_isLike_32 : decode cX9_isLike 32 = .ok (.getfield 128, 3) := by decide +kernel
theorem dX9_isLike_35 : decode cX9_isLike 35 = .ok (.if_icmp .ge 17, 3) := by decide +kernel
theorem dX9_isLike_38 : decode cX9_isLike 38 = .ok (.aload_n 0, 1) := by decide +kernel
theorem dX9_isLike_39 : decode cX9_isLike 39 = .ok (.getfield 19, 3) := by decide +kernel
theorem dX9_isLike_42 : decode cX9_isLike 42 = .ok (.aload_n 0, 1) := by decide +kernel
theorem dX9_isLike_43 : decode cX9_isLike 43 = .ok (.getfield 131, 3) := by decide +kernel
theorem dX9_isLike_46 : decode cX9_isLike 46 = .ok (.iload_n 3, 1) := by decide +kernel
theorem dX9_isLike_47 : decode cX9_isLike 47 = .ok (.iadd, 1) := by decide +kernel
theorem dX9_isLike_48 : decode cX9_isLike 48 = .ok (.iaload, 1) := by decide +kernel
theorem dX9_isLike_49 : decode cX9_isLike 49 = .ok (.goto 4, 3) := by decide +kernel
theorem dX9_isLike_52 : decode cX9_isLike 52 = .ok (.iconst 0, 1) := by decide +kernel
theorem dX9_isLike_53 : decode cX9_isLike 53 = .ok (.if_icmp .ne 7, 3) := by decide +kernel
theorem dX9_isLike_56 : decode cX9_isLike 56 = .ok (.iconst 1, 1) := by decide +kernel
theorem dX9_isLike_57 : decode cX9_isLike 57 = .ok (.goto 4, 3) := by decide +kernel
theorem dX9_isLike_60 : decode cX9_isLike 60 = .ok (.iconst 0, 1) := by decide +kernel
theorem dX9_isLike_61 : decode cX9_isLike 61 = .ok (.istore_n 2, 1) := by decide +kernel
theorem dX9_isLike_62 : decode cX9_isLike 62 = .ok (.iinc 3 1, 3) := by decide +kernel
theorem dX9_isLike_65 : decode cX9_isLike 65 = .ok (.goto (-61), 3) := by decide +kernel
theorem dX9_isLike_68 : decode cX9_isLike 68 = .ok (.iload_n 2, 1) := by decide +kernel
theorem dX9_isLike_69 : decode cX9_isLike 69 = .ok (.ireturn, 1) := by decide +kernel
theorem dX9_wordHere_0 : decode cX9_wordHere 0 = .ok (.aload_n 0, 1) := by decide +kernel
theorem dX9_wordHere_1 : decode cX9_wordHere 1 = .ok (.invokevirtual 137, 3) := by decide +kernel
theorem dX9_wordHere_4 : decode cX9_wordHere 4 = .ok (.ifCond .eq 17, 3) := by decide +kernel
theorem dX9_wordHere_7 : decode cX9_wordHere 7 = .ok (.aload_n 0, 1) := by decide +kernel
theorem dX9_wordHere_8 : decode cX9_wordHere 8 = .ok (.getfield 128, 3) := by decide +kernel
theorem dX9_wordHere_11 : decode cX9_wordHere 11 = .ok (.aload_n 0, 1) := by decide +kernel
theorem dX9_wordHere_12 : decode cX9_wordHere 12 = .ok (.getfield 131, 3) := by decide +kernel
theorem dX9_wordHere_15 : decode cX9_wordHere 15 = .ok (.isub, 1) := by decide +kernel
theorem dX9_wordHere_16 : decode cX9_wordHere 16 = .ok (.bipush 8, 2) := by decide +kernel
theorem dX9_wordHere_18 : decode cX9_wordHere 18 = .ok (.if_icmp .le 6, 3) := by decide +kernel
theorem dX9_wordHere_21 : decode cX9_wordHere 21 = .ok (.bipush (-99), 2) := by decide +kernel
theorem dX9_wordHere_23 : decode cX9_wordHere 23 = .ok (.ireturn, 1) := by decide +kernel
theorem dX9_wordHere_24 : decode cX9_wordHere 24 = .ok (.iconst 0, 1) := by decide +kernel
theorem dX9_wordHere_25 : decode cX9_wordHere 25 = .ok (.istore_n 1, 1) := by decide +kernel
theorem dX9_wordHere_26 : decode cX9_wordHere 26 = .ok (.iload_n 1, 1) := by decide +kernel
theorem dX9_wordHere_27 : decode cX9_wordHere 27 = .ok (.aload_n 0, 1) := by decide +kernel
theorem dX9_wordHere_28 : decode cX9_wordHere 28 = .ok (.getfield 7, 3) := by decide +kernel
theorem dX9_wordHere_31 : decode cX9_wordHere 31 = .ok (.iconst 0, 1) := by decide +kernel
theorem dX9_wordHere_32 : decode cX9_wordHere 32 = .ok (.iaload, 1) := by decide +kernel
theorem dX9_wordHere_33 : decode cX9_wordHere 33 = .ok (.if_icmp .ge 19, 3) := by decide +kernel
theorem dX9_wordHere_36 : decode cX9_wordHere 36 = .ok (.aload_n 0, 1) := by decide +kernel
theorem dX9_wordHere_37 : decode cX9_wordHere 37 = .ok (.iload_n 1, 1) := by decide +kernel
theorem dX9_wordHere_38 : decode cX9_wordHere 38 = .ok (.invokevirtual 140, 3) := by decide +kernel
theorem dX9_wordHere_41 : decode cX9_wordHere 41 = .ok (.ifCond .eq 5, 3) := by decide +kernel
theorem dX9_wordHere_44 : decode cX9_wordHere 44 = .ok (.iload_n 1, 1) := by decide +kernel
theorem dX9_wordHere_45 : decode cX9_wordHere 45 = .ok (.ireturn, 1) := by decide +kernel
theorem dX9_wordHere_46 : decode cX9_wordHere 46 = .ok (.iinc 1 1, 3) := by decide +kernel
theorem dX9_wordHere_49 : decode cX9_wordHere 49 = .ok (.goto (-23), 3) := by decide +kernel
theorem dX9_wordHere_52 : decode cX9_wordHere 52 = .ok (.aload_n 0, 1) := by decide +kernel
theorem dX9_wordHere_53 : decode cX9_wordHere 53 = .ok (.getfield 7, 3) := by decide +kernel
theorem dX9_wordHere_56 : decode cX9_wordHere 56 = .ok (.iconst 0, 1) := by decide +kernel
theorem dX9_wordHere_57 : decode cX9_wordHere 57 = .ok (.iaload, 1) := by decide +kernel
theorem dX9_wordHere_58 : decode cX9_wordHere 58 = .ok (.bipush 60, 2) := by decide +kernel
theorem dX9_wordHere_60 : decode cX9_wordHere 60 = .ok (.if_icmp .ne 6, 3) := by decide +kernel
theorem dX9_wordHere_63 : decode cX9_wordHere 63 = .ok (.bipush (-99), 2) := by decide +kernel
theorem dX9_wordHere_65 : decode cX9_wordHere 65 = .ok (.ireturn, 1) := by decide +kernel
theorem dX9_wordHere_66 : decode cX9_wordHere 66 = .ok (.aload_n 0, 1) := by decide +kernel
theorem dX9_wordHere_67 : decode cX9_wordHere 67 = .ok (.getfield 7, 3) := by decide +kernel
theorem dX9_wordHere_70 : decode cX9_wordHere 70 = .ok (.iconst 0, 1) := by decide +kernel
theorem dX9_wordHere_71 : decode cX9_wordHere 71 = .ok (.iaload, 1) := by decide +kernel
theorem dX9_wordHere_72 : decode cX9_wordHere 72 = .ok (.istore_n 1, 1) := by decide +kernel
theorem dX9_wordHere_73 : decode cX9_wordHere 73 = .ok (.iconst 0, 1) := by decide +kernel
theorem dX9_wordHere_74 : decode cX9_wordHere 74 = .ok (.istore_n 2, 1) := by decide +kernel
theorem dX9_wordHere_75 : decode cX9_wordHere 75 = .ok (.iload_n 2, 1) := by decide +kernel
theorem dX9_wordHere_76 : decode cX9_wordHere 76 = .ok (.bipush 8, 2) := by decide +kernel
theorem dX9_wordHere_78 : decode cX9_wordHere 78 = .ok (.if_icmp .ge 48, 3) := by decide +kernel
theorem dX9_wordHere_81 : decode cX9_wordHere 81 = .ok (.aload_n 0, 1) := by decide +kernel
theorem dX9_wordHere_82 : decode cX9_wordHere 82 = .ok (.getfield 22, 3) := by decide +kernel
theorem dX9_wordHere_85 : decode cX9_wordHere 85 = .ok (.bipush 8, 2) := by decide +kernel
theorem dX9_wordHere_87 : decode cX9_wordHere 87 = .ok (.iload_n 1, 1) := by decide +kernel
theorem dX9_wordHere_88 : decode cX9_wordHere 88 = .ok (.imul, 1) := by decide +kernel
theorem dX9_wordHere_89 : decode cX9_wordHere 89 = .ok (.iload_n 2, 1) := by decide +kernel
theorem dX9_wordHere_90 : decode cX9_wordHere 90 = .ok (.iadd, 1) := by decide +kernel
theorem dX9_wordHere_91 : decode cX9_wordHere 91 = .ok (.aload_n 0, 1) := by decide +kernel
theorem dX9_wordHere_92 : decode cX9_wordHere 92 = .ok (.getfield 131, 3) := by decide +kernel
theorem dX9_wordHere_95 : decode cX9_wordHere 95 = .ok (.iload_n 2, 1) := by decide +kernel
theorem dX9_wordHere_96 : decode cX9_wordHere 96 = .ok (.iadd, 1) := by decide +kernel
theorem dX9_wordHere_97 : decode cX9_wordHere 97 = .ok (.aload_n 0, 1) := by decide +kernel
theorem dX9_wordHere_98 : decode cX9_wordHere 98 = .ok (.getfield 128, 3) := by decide +kernel
theorem dX9_wordHere_101 : decode cX9_wordHere 101 = .ok (.if_icmp .ge 17, 3) := by decide +kernel
theorem dX9_wordHere_104 : decode cX9_wordHere 104 = .ok (.aload_n 0, 1) := by decide +kernel
theorem dX9_wordHere_105 : decode cX9_wordHere 105 = .ok (.getfield 19, 3) := by decide +kernel
theorem dX9_wordHere_108 : decode cX9_wordHere 108 = .ok (.aload_n 0, 1) := by decide +kernel
theorem dX9_wordHere_109 : decode cX9_wordHere 109 = .ok (.getfield 131, 3) := by decide +kernel
theorem dX9_wordHere_112 : decode cX9_wordHere 112 = .ok (.iload_n 2, 1) := by decide +kernel
theorem dX9_wordHere_113 : decode cX9_wordHere 113 = .ok (.iadd, 1) := by decide +kernel
theorem dX9_wordHere_114 : decode cX9_wordHere 114 = .ok (.iaload, 1) := by decide +kernel
theorem dX9_wordHere_115 : decode cX9_wordHere 115 = .ok (.goto 4, 3) := by decide +kernel
theorem dX9_wordHere_118 : decode cX9_wordHere 118 = .ok (.iconst 0, 1) := by decide +kernel
theorem dX9_wordHere_119 : decode cX9_wordHere 119 = .ok (.iastore, 1) := by decide +kernel
theorem dX9_wordHere_120 : decode cX9_wordHere 120 = .ok (.iinc 2 1, 3) := by decide +kernel
theorem dX9_wordHere_123 : decode cX9_wordHere 123 = .ok (.goto (-48), 3) := by decide +kernel
theorem dX9_wordHere_126 : decode cX9_wordHere 126 = .ok (.aload_n 0, 1) := by decide +kernel
theorem dX9_wordHere_127 : decode cX9_wordHere 127 = .ok (.getfield 7, 3) := by decide +kernel
theorem dX9_wordHere_130 : decode cX9_wordHere 130 = .ok (.iconst 1, 1) := by decide +kernel
theorem dX9_wordHere_131 : decode cX9_wordHere 131 = .ok (.iload_n 1, 1) := by decide +kernel
theorem dX9_wordHere_132 : decode cX9_wordHere 132 = .ok (.iadd, 1) := by decide +kernel
theorem dX9_wordHere_133 : decode cX9_wordHere 133 = .ok (.iload_n 1, 1) := by decide +kernel
theorem dX9_wordHere_134 : decode cX9_wordHere 134 = .ok (.iastore, 1) := by decide +kernel
theorem dX9_wordHere_135 : decode cX9_wordHere 135 = .ok (.aload_n 0, 1) := by decide +kernel
theorem dX9_wordHere_136 : decode cX9_wordHere 136 = .ok (.getfield 7, 3) := by decide +kernel
theorem dX9_wordHere_139 : decode cX9_wordHere 139 = .ok (.iconst 0, 1) := by decide +kernel
theorem dX9_wordHere_140 : decode cX9_wordHere 140 = .ok (.dup2, 1) := by decide +kernel
theorem dX9_wordHere_141 : decode cX9_wordHere 141 = .ok (.iaload, 1) := by decide +kernel
theorem dX9_wordHere_142 : decode cX9_wordHere 142 = .ok (.iconst 1, 1) := by decide +kernel
theorem dX9_wordHere_143 : decode cX9_wordHere 143 = .ok (.iadd, 1) := by decide +kernel
theorem dX9_wordHere_144 : decode cX9_wordHere 144 = .ok (.iastore, 1) := by decide +kernel
theorem dX9_wordHere_145 : decode cX9_wordHere 145 = .ok (.iload_n 1, 1) := by decide +kernel
theorem dX9_wordHere_146 : decode cX9_wordHere 146 = .ok (.ireturn, 1) := by decide +kernel
theorem dX9_takesWords_0 : decode cX9_takesWords 0 = .ok (.aload_n 0, 1) := by decide +kernel
theorem dX9_takesWords_1 : decode cX9_takesWords 1 = .ok (.iconst 0, 1) := by decide +kernel
theorem dX9_takesWords_2 : decode cX9_takesWords 2 = .ok (.putfield 143, 3) := by decide +kernel
theorem dX9_takesWords_5 : decode cX9_takesWords 5 = .ok (.aload_n 0, 1) := by decide +kernel
theorem dX9_takesWords_6 : decode cX9_takesWords 6 = .ok (.invokevirtual 146, 3) := by decide +kernel
theorem dX9_takesWords_9 : decode cX9_takesWords 9 = .ok (.aload_n 0, 1) := by decide +kernel
theorem dX9_takesWords_10 : decode cX9_takesWords 10 = .ok (.invokevirtual 137, 3) := by decide +kernel
theorem dX9_takesWords_13 : decode cX9_takesWords 13 = .ok (.ifCond .eq 56, 3) := by decide +kernel
theorem dX9_takesWords_16 : decode cX9_takesWords 16 = .ok (.aload_n 0, 1) := by decide +kernel
theorem dX9_takesWords_17 : decode cX9_takesWords 17 = .ok (.getfield 143, 3) := by decide +kernel
theorem dX9_takesWords_20 : decode cX9_takesWords 20 = .ok (.iload_n 1, 1) := by decide +kernel
theorem dX9_takesWords_21 : decode cX9_takesWords 21 = .ok (.if_icmp .ne 8, 3) := by decide +kernel
theorem dX9_takesWords_24 : decode cX9_takesWords 24 = .ok (.bipush (-99), 2) := by decide +kernel
theorem dX9_takesWords_26 : decode cX9_takesWords 26 = .ok (.goto 7, 3) := by decide +kernel
theorem dX9_takesWords_29 : decode cX9_takesWords 29 = .ok (.aload_n 0, 1) := by decide +kernel
theorem dX9_takesWords_30 : decode cX9_takesWords 30 = .ok (.invokevirtual 149, 3) := by decide +kernel
theorem dX9_takesWords_33 : decode cX9_takesWords 33 = .ok (.istore_n 2, 1) := by decide +kernel
theorem dX9_takesWords_34 : decode cX9_takesWords 34 = .ok (.iload_n 2, 1) := by decide +kernel
theorem dX9_takesWords_35 : decode cX9_takesWords 35 = .ok (.bipush (-99), 2) := by decide +kernel
theorem dX9_takesWords_37 : decode cX9_takesWords 37 = .ok (.if_icmp .ne 5, 3) := by decide +kernel
theorem dX9_takesWords_40 : decode cX9_takesWords 40 = .ok (.iconst 0, 1) := by decide +kernel
theorem dX9_takesWords_41 : decode cX9_takesWords 41 = .ok (.ireturn, 1) := by decide +kernel
theorem dX9_takesWords_42 : decode cX9_takesWords 42 = .ok (.aload_n 0, 1) := by decide +kernel
theorem dX9_takesWords_43 : decode cX9_takesWords 43 = .ok (.getfield 38, 3) := by decide +kernel
theorem dX9_takesWords_46 : decode cX9_takesWords 46 = .ok (.aload_n 0, 1) := by decide +kernel
theorem dX9_takesWords_47 : decode cX9_takesWords 47 = .ok (.getfield 143, 3) := by decide +kernel
theorem dX9_takesWords_50 : decode cX9_takesWords 50 = .ok (.iload_n 2, 1) := by decide +kernel
theorem dX9_takesWords_51 : decode cX9_takesWords 51 = .ok (.iastore, 1) := by decide +kernel
theorem dX9_takesWords_52 : decode cX9_takesWords 52 = .ok (.aload_n 0, 1) := by decide +kernel
theorem dX9_takesWords_53 : decode cX9_takesWords 53 = .ok (.dup, 1) := by decide +kernel
theorem dX9_takesWords_54 : decode cX9_takesWords 54 = .ok (.getfield 143, 3) := by decide +kernel
theorem dX9_takesWords_57 : decode cX9_takesWords 57 = .ok (.iconst 1, 1) := by decide +kernel
theorem dX9_takesWords_58 : decode cX9_takesWords 58 = .ok (.iadd, 1) := by decide +kernel
theorem dX9_takesWords_59 : decode cX9_takesWords 59 = .ok (.putfield 143, 3) := by decide +kernel
theorem dX9_takesWords_62 : decode cX9_takesWords 62 = .ok (.aload_n 0, 1) := by decide +kernel
theorem dX9_takesWords_63 : decode cX9_takesWords 63 = .ok (.invokevirtual 146, 3) := by decide +kernel
theorem dX9_takesWords_66 : decode cX9_takesWords 66 = .ok (.goto (-57), 3) := by decide +kernel
theorem dX9_takesWords_69 : decode cX9_takesWords 69 = .ok (.iconst 1, 1) := by decide +kernel
theorem dX9_takesWords_70 : decode cX9_takesWords 70 = .ok (.ireturn, 1) := by decide +kernel
theorem dX9_takesChapter_0 : decode cX9_takesChapter 0 = .ok (.aload_n 0, 1) := by decide +kernel
theorem dX9_takesChapter_1 : decode cX9_takesChapter 1 = .ok (.invokevirtual 146, 3) := by decide +kernel
theorem dX9_takesChapter_4 : decode cX9_takesChapter 4 = .ok (.aload_n 0, 1) := by decide +kernel
theorem dX9_takesChapter_5 : decode cX9_takesChapter 5 = .ok (.getfield 128, 3) := by decide +kernel
theorem dX9_takesChapter_8 : decode cX9_takesChapter 8 = .ok (.aload_n 0, 1) := by decide +kernel
theorem dX9_takesChapter_9 : decode cX9_takesChapter 9 = .ok (.getfield 131, 3) := by decide +kernel
theorem dX9_takesChapter_12 : decode cX9_takesChapter 12 = .ok (.iconst 1, 1) := by decide +kernel
theorem dX9_takesChapter_13 : decode cX9_takesChapter 13 = .ok (.iadd, 1) := by decide +kernel
theorem dX9_takesChapter_14 : decode cX9_takesChapter 14 = .ok (.if_icmp .ne 22, 3) := by decide +kernel
theorem dX9_takesChapter_17 : decode cX9_takesChapter 17 = .ok (.aload_n 0, 1) := by decide +kernel
theorem dX9_takesChapter_18 : decode cX9_takesChapter 18 = .ok (.getfield 19, 3) := by decide +kernel
theorem dX9_takesChapter_21 : decode cX9_takesChapter 21 = .ok (.aload_n 0, 1) := by decide +kernel
theorem dX9_takesChapter_22 : decode cX9_takesChapter 22 = .ok (.getfield 131, 3) := by decide +kernel
theorem dX9_takesChapter_25 : decode cX9_takesChapter 25 = .ok (.iaload, 1) := by decide +kernel
theorem dX9_takesChapter_26 : decode cX9_takesChapter 26 = .ok (.bipush 48, 2) := by decide +kernel
theorem dX9_takesChapter_28 : decode cX9_takesChapter 28 = .ok (.bipush 53, 2) := by decide +kernel
theorem dX9_takesChapter_30 : decode cX9_takesChapter 30 = .ok (.invokestatic 45, 3) := by decide +kernel
theorem dX9_takesChapter_33 : decode cX9_takesChapter 33 = .ok (.ifCond .ne 5, 3) := by decide +kernel
theorem dX9_takesChapter_36 : decode cX9_takesChapter 36 = .ok (.iconst 0, 1) := by decide +kernel
theorem dX9_takesChapter_37 : decode cX9_takesChapter 37 = .ok (.ireturn, 1) := by decide +kernel
theorem dX9_takesChapter_38 : decode cX9_takesChapter 38 = .ok (.aload_n 0, 1) := by decide +kernel
theorem dX9_takesChapter_39 : decode cX9_takesChapter 39 = .ok (.getfield 19, 3) := by decide +kernel
theorem dX9_takesChapter_42 : decode cX9_takesChapter 42 = .ok (.aload_n 0, 1) := by decide +kernel
theorem dX9_takesChapter_43 : decode cX9_takesChapter 43 = .ok (.getfield 131, 3) := by decide +kernel
theorem dX9_takesChapter_46 : decode cX9_takesChapter 46 = .ok (.iaload, 1) := by decide +kernel
theorem dX9_takesChapter_47 : decode cX9_takesChapter 47 = .ok (.bipush 48, 2) := by decide +kernel
theorem dX9_takesChapter_49 : decode cX9_takesChapter 49 = .ok (.isub, 1) := by decide +kernel
theorem dX9_takesChapter_50 : decode cX9_takesChapter 50 = .ok (.istore_n 1, 1) := by decide +kernel
theorem dX9_takesChapter_51 : decode cX9_takesChapter 51 = .ok (.aload_n 0, 1) := by decide +kernel
theorem dX9_takesChapter_52 : decode cX9_takesChapter 52 = .ok (.invokevirtual 146, 3) := by decide +kernel
theorem dX9_takesChapter_55 : decode cX9_takesChapter 55 = .ok (.aload_n 0, 1) := by decide +kernel
theorem dX9_takesChapter_56 : decode cX9_takesChapter 56 = .ok (.bipush 58, 2) := by decide +kernel
theorem dX9_takesChapter_58 : decode cX9_takesChapter 58 = .ok (.invokevirtual 152, 3) := by decide +kernel
theorem dX9_takesChapter_61 : decode cX9_takesChapter 61 = .ok (.ifCond .eq 21, 3) := by decide +kernel
theorem dX9_takesChapter_64 : decode cX9_takesChapter 64 = .ok (.aload_n 0, 1) := by decide +kernel
theorem dX9_takesChapter_65 : decode cX9_takesChapter 65 = .ok (.bipush 40, 2) := by decide +kernel
theorem dX9_takesChapter_67 : decode cX9_takesChapter 67 = .ok (.invokevirtual 155, 3) := by decide +kernel
theorem dX9_takesChapter_70 : decode cX9_takesChapter 70 = .ok (.ifCond .eq 12, 3) := by decide +kernel
theorem dX9_takesChapter_73 : decode cX9_takesChapter 73 = .ok (.aload_n 0, 1) := by decide +kernel
theorem dX9_takesChapter_74 : decode cX9_takesChapter 74 = .ok (.bipush 59, 2) := by decide +kernel
theorem dX9_takesChapter_76 : decode cX9_takesChapter 76 = .ok (.invokevirtual 152, 3) := by decide +kernel
theorem dX9_takesChapter_79 : decode cX9_takesChapter 79 = .ok (.ifCond .ne 5, 3) := by decide +kernel
theorem dX9_takesChapter_82 : decode cX9_takesChapter 82 = .ok (.iconst 0, 1) := by decide +kernel
theorem dX9_takesChapter_83 : decode cX9_takesChapter 83 = .ok (.ireturn, 1) := by decide +kernel
theorem dX9_takesChapter_84 : decode cX9_takesChapter 84 = .ok (.aload_n 0, 1) := by decide +kernel
theorem dX9_takesChapter_85 : decode cX9_takesChapter 85 = .ok (.getfield 7, 3) := by decide +kernel
theorem dX9_takesChapter_88 : decode cX9_takesChapter 88 = .ok (.bipush 61, 2) := by decide +kernel
theorem dX9_takesChapter_90 : decode cX9_takesChapter 90 = .ok (.bipush 41, 2) := by decide +kernel
theorem dX9_takesChapter_92 : decode cX9_takesChapter 92 = .ok (.iload_n 1, 1) := by decide +kernel
theorem dX9_takesChapter_93 : decode cX9_takesChapter 93 = .ok (.imul, 1) := by decide +kernel
theorem dX9_takesChapter_94 : decode cX9_takesChapter 94 = .ok (.iadd, 1) := by decide +kernel
theorem dX9_takesChapter_95 : decode cX9_takesChapter 95 = .ok (.aload_n 0, 1) := by decide +kernel
theorem dX9_takesChapter_96 : decode cX9_takesChapter 96 = .ok (.getfield 143, 3) := by decide +kernel
theorem dX9_takesChapter_99 : decode cX9_takesChapter 99 = .ok (.iastore, 1) := by decide +kernel
theorem dX9_takesChapter_100 : decode cX9_takesChapter 100 = .ok (.iconst 0, 1) := by decide +kernel
theorem dX9_takesChapter_101 : decode cX9_takesChapter 101 = .ok (.istore_n 2, 1) := by decide +kernel
theorem dX9_takesChapter_102 : decode cX9_takesChapter 102 = .ok (.iload_n 2, 1) := by decide +kernel
theorem dX9_takesChapter_103 : decode cX9_takesChapter 103 = .ok (.aload_n 0, 1) := by decide +kernel
theorem dX9_takesChapter_104 : decode cX9_takesChapter 104 = .ok (.getfield 143, 3) := by decide +kernel
theorem dX9_takesChapter_107 : decode cX9_takesChapter 107 = .ok (.if_icmp .ge 25, 3) := by decide +kernel
theorem dX9_takesChapter_110 : decode cX9_takesChapter 110 = .ok (.aload_n 0, 1) := by decide +kernel
theorem dX9_takesChapter_111 : decode cX9_takesChapter 111 = .ok (.getfield 7, 3) := by decide +kernel
theorem dX9_takesChapter_114 : decode cX9_takesChapter 114 = .ok (.iload_n 1, 1) := by decide +kernel
theorem dX9_takesChapter_115 : decode cX9_takesChapter 115 = .ok (.iload_n 2, 1) := by decide +kernel
theorem dX9_takesChapter_116 : decode cX9_takesChapter 116 = .ok (.invokestatic 49, 3) := by decide +kernel
theorem dX9_takesChapter_119 : decode cX9_takesChapter 119 = .ok (.aload_n 0, 1) := by decide +kernel
theorem dX9_takesChapter_120 : decode cX9_takesChapter 120 = .ok (.getfield 38, 3) := by decide +kernel
theorem dX9_takesChapter_123 : decode cX9_takesChapter 123 = .ok (.iload_n 2, 1) := by decide +kernel
theorem dX9_takesChapter_124 : decode cX9_takesChapter 124 = .ok (.iaload, 1) := by decide +kernel
theorem dX9_takesChapter_125 : decode cX9_takesChapter 125 = .ok (.iastore, 1) := by decide +kernel
theorem dX9_takesChapter_126 : decode cX9_takesChapter 126 = .ok (.iinc 2 1, 3) := by decide +kernel
theorem dX9_takesChapter_129 : decode cX9_takesChapter 129 = .ok (.goto (-27), 3) := by decide +kernel
theorem dX9_takesChapter_132 : decode cX9_takesChapter 132 = .ok (.iconst 1, 1) := by decide +kernel
theorem dX9_takesChapter_133 : decode cX9_takesChapter 133 = .ok (.ireturn, 1) := by decide +kernel
theorem dX9_takesTerm_0 : decode cX9_takesTerm 0 = .ok (.aload_n 0, 1) := by decide +kernel
theorem dX9_takesTerm_1 : decode cX9_takesTerm 1 = .ok (.iconst 4, 1) := by decide +kernel
theorem dX9_takesTerm_2 : decode cX9_takesTerm 2 = .ok (.invokevirtual 155, 3) := by decide +kernel
theorem dX9_takesTerm_5 : decode cX9_takesTerm 5 = .ok (.ifCond .eq 19, 3) := by decide +kernel
theorem dX9_takesTerm_8 : decode cX9_takesTerm 8 = .ok (.aload_n 0, 1) := by decide +kernel
theorem dX9_takesTerm_9 : decode cX9_takesTerm 9 = .ok (.getfield 143, 3) := by decide +kernel
theorem dX9_takesTerm_12 : decode cX9_takesTerm 12 = .ok (.ifCond .eq 12, 3) := by decide +kernel
theorem dX9_takesTerm_15 : decode cX9_takesTerm 15 = .ok (.aload_n 0, 1) := by decide +kernel
theorem dX9_takesTerm_16 : decode cX9_takesTerm 16 = .ok (.bipush 59, 2) := by decide +kernel
theorem dX9_takesTerm_18 : decode cX9_takesTerm 18 = .ok (.invokevirtual 152, 3) := by decide +kernel
theorem dX9_takesTerm_21 : decode cX9_takesTerm 21 = .ok (.ifCond .ne 5, 3) := by decide +kernel
theorem dX9_takesTerm_24 : decode cX9_takesTerm 24 = .ok (.iconst 0, 1) := by decide +kernel
theorem dX9_takesTerm_25 : decode cX9_takesTerm 25 = .ok (.ireturn, 1) := by decide +kernel
theorem dX9_takesTerm_26 : decode cX9_takesTerm 26 = .ok (.aload_n 0, 1) := by decide +kernel
theorem dX9_takesTerm_27 : decode cX9_takesTerm 27 = .ok (.getfield 25, 3) := by decide +kernel
theorem dX9_takesTerm_30 : decode cX9_takesTerm 30 = .ok (.iconst 0, 1) := by decide +kernel
theorem dX9_takesTerm_31 : decode cX9_takesTerm 31 = .ok (.aload_n 0, 1) := by decide +kernel
theorem dX9_takesTerm_32 : decode cX9_takesTerm 32 = .ok (.getfield 143, 3) := by decide +kernel
theorem dX9_takesTerm_35 : decode cX9_takesTerm 35 = .ok (.iastore, 1) := by decide +kernel
theorem dX9_takesTerm_36 : decode cX9_takesTerm 36 = .ok (.iconst 0, 1) := by decide +kernel
theorem dX9_takesTerm_37 : decode cX9_takesTerm 37 = .ok (.istore_n 1, 1) := by decide +kernel
theorem dX9_takesTerm_38 : decode cX9_takesTerm 38 = .ok (.iload_n 1, 1) := by decide +kernel
theorem dX9_takesTerm_39 : decode cX9_takesTerm 39 = .ok (.iconst 4, 1) := by decide +kernel
theorem dX9_takesTerm_40 : decode cX9_takesTerm 40 = .ok (.if_icmp .ge 35, 3) := by decide +kernel
theorem dX9_takesTerm_43 : decode cX9_takesTerm 43 = .ok (.aload_n 0, 1) := by decide +kernel
theorem dX9_takesTerm_44 : decode cX9_takesTerm 44 = .ok (.getfield 25, 3) := by decide +kernel
theorem dX9_takesTerm_47 : decode cX9_takesTerm 47 = .ok (.iload_n 1, 1) := by decide +kernel
theorem dX9_takesTerm_48 : decode cX9_takesTerm 48 = .ok (.iconst 1, 1) := by decide +kernel
theorem dX9_takesTerm_49 : decode cX9_takesTerm 49 = .ok (.iadd, 1) := by decide +kernel
theorem dX9_takesTerm_50 : decode cX9_takesTerm 50 = .ok (.iload_n 1, 1) := by decide +kernel
theorem dX9_takesTerm_51 : decode cX9_takesTerm 51 = .ok (.aload_n 0, 1) := by decide +kernel
theorem dX9_takesTerm_52 : decode cX9_takesTerm 52 = .ok (.getfield 143, 3) := by decide +kernel
theorem dX9_takesTerm_55 : decode cX9_takesTerm 55 = .ok (.if_icmp .ge 12, 3) := by decide +kernel
theorem dX9_takesTerm_58 : decode cX9_takesTerm 58 = .ok (.aload_n 0, 1) := by decide +kernel
theorem dX9_takesTerm_59 : decode cX9_takesTerm 59 = .ok (.getfield 38, 3) := by decide +kernel
theorem dX9_takesTerm_62 : decode cX9_takesTerm 62 = .ok (.iload_n 1, 1) := by decide +kernel
theorem dX9_takesTerm_63 : decode cX9_takesTerm 63 = .ok (.iaload, 1) := by decide +kernel
theorem dX9_takesTerm_64 : decode cX9_takesTerm 64 = .ok (.goto 4, 3) := by decide +kernel
theorem dX9_takesTerm_67 : decode cX9_takesTerm 67 = .ok (.iconst (-1), 1) := by decide +kernel
theorem dX9_takesTerm_68 : decode cX9_takesTerm 68 = .ok (.iastore, 1) := by decide +kernel
theorem dX9_takesTerm_69 : decode cX9_takesTerm 69 = .ok (.iinc 1 1, 3) := by decide +kernel
theorem dX9_takesTerm_72 : decode cX9_takesTerm 72 = .ok (.goto (-34), 3) := by decide +kernel
theorem dX9_takesTerm_75 : decode cX9_takesTerm 75 = .ok (.aload_n 0, 1) := by decide +kernel
theorem dX9_takesTerm_76 : decode cX9_takesTerm 76 = .ok (.invokevirtual 82, 3) := by decide +kernel
theorem dX9_takesTerm_79 : decode cX9_takesTerm 79 = .ok (.ifCond .ne 16, 3) := by decide +kernel
theorem dX9_takesTerm_82 : decode cX9_takesTerm 82 = .ok (.aload_n 0, 1) := by decide +kernel
theorem dX9_takesTerm_83 : decode cX9_takesTerm 83 = .ok (.getfield 7, 3) := by decide +kernel
theorem dX9_takesTerm_86 : decode cX9_takesTerm 86 = .ok (.sipush 307, 3) := by decide +kernel
theorem dX9_takesTerm_89 : decode cX9_takesTerm 89 = .ok (.iaload, 1) := by decide +kernel
theorem dX9_takesTerm_90 : decode cX9_takesTerm 90 = .ok (.bipush 12, 2) := by decide +kernel
theorem dX9_takesTerm_92 : decode cX9_takesTerm 92 = .ok (.if_icmp .ne 5, 3) := by decide +kernel
theorem dX9_takesTerm_95 : decode cX9_takesTerm 95 = .ok (.iconst 0, 1) := by decide +kernel
theorem dX9_takesTerm_96 : decode cX9_takesTerm 96 = .ok (.ireturn, 1) := by decide +kernel
theorem dX9_takesTerm_97 : decode cX9_takesTerm 97 = .ok (.aload_n 0, 1) := by decide +kernel
theorem dX9_takesTerm_98 : decode cX9_takesTerm 98 = .ok (.invokevirtual 86, 3) := by decide +kernel
theorem dX9_takesTerm_101 : decode cX9_takesTerm 101 = .ok (.ifCond .lt 7, 3) := by decide +kernel
theorem dX9_takesTerm_104 : decode cX9_takesTerm 104 = .ok (.iconst 1, 1) := by decide +kernel
theorem dX9_takesTerm_105 : decode cX9_takesTerm 105 = .ok (.goto 4, 3) := by decide +kernel
theorem dX9_takesTerm_108 : decode cX9_takesTerm 108 = .ok (.iconst 0, 1) := by decide +kernel
theorem dX9_takesTerm_109 : decode cX9_takesTerm 109 = .ok (.ireturn, 1) := by decide +kernel
theorem dX9_takesForm_0 : decode cX9_takesForm 0 = .ok (.aload_n 0, 1) := by decide +kernel
theorem dX9_takesForm_1 : decode cX9_takesForm 1 = .ok (.iconst 1, 1) := by decide +kernel
theorem dX9_takesForm_2 : decode cX9_takesForm 2 = .ok (.invokevirtual 155, 3) := by decide +kernel
theorem dX9_takesForm_5 : decode cX9_takesForm 5 = .ok (.ifCond .eq 19, 3) := by decide +kernel
theorem dX9_takesForm_8 : decode cX9_takesForm 8 = .ok (.aload_n 0, 1) := by decide +kernel
theorem dX9_takesForm_9 : decode cX9_takesForm 9 = .ok (.getfield 143, 3) := by decide +kernel
theorem dX9_takesForm_12 : decode cX9_takesForm 12 = .ok (.ifCond .eq 12, 3) := by decide +kernel
theorem dX9_takesForm_15 : decode cX9_takesForm 15 = .ok (.aload_n 0, 1) := by decide +kernel
theorem dX9_takesForm_16 : decode cX9_takesForm 16 = .ok (.bipush 61, 2) := by decide +kernel
theorem dX9_takesForm_18 : decode cX9_takesForm 18 = .ok (.invokevirtual 152, 3) := by decide +kernel
theorem dX9_takesForm_21 : decode cX9_takesForm 21 = .ok (.ifCond .ne 5, 3) := by decide +kernel
theorem dX9_takesForm_24 : decode cX9_takesForm 24 = .ok (.iconst 0, 1) := by decide +kernel
theorem dX9_takesForm_25 : decode cX9_takesForm 25 = .ok (.ireturn, 1) := by decide +kernel
theorem dX9_takesForm_26 : decode cX9_takesForm 26 = .ok (.aload_n 0, 1) := by decide +kernel
theorem dX9_takesForm_27 : decode cX9_takesForm 27 = .ok (.getfield 38, 3) := by decide +kernel
theorem dX9_takesForm_30 : decode cX9_takesForm 30 = .ok (.iconst 0, 1) := by decide +kernel
theorem dX9_takesForm_31 : decode cX9_takesForm 31 = .ok (.iaload, 1) := by decide +kernel
theorem dX9_takesForm_32 : decode cX9_takesForm 32 = .ok (.istore_n 1, 1) := by decide +kernel
theorem dX9_takesForm_33 : decode cX9_takesForm 33 = .ok (.aload_n 0, 1) := by decide +kernel
theorem dX9_takesForm_34 : decode cX9_takesForm 34 = .ok (.iconst 1, 1) := by decide +kernel
theorem dX9_takesForm_35 : decode cX9_takesForm 35 = .ok (.invokevirtual 155, 3) := by decide +kernel
theorem dX9_takesForm_38 : decode cX9_takesForm 38 = .ok (.ifCond .eq 19, 3) := by decide +kernel
theorem dX9_takesForm_41 : decode cX9_takesForm 41 = .ok (.aload_n 0, 1) := by decide +kernel
theorem dX9_takesForm_42 : decode cX9_takesForm 42 = .ok (.getfield 143, 3) := by decide +kernel
theorem dX9_takesForm_45 : decode cX9_takesForm 45 = .ok (.ifCond .eq 12, 3) := by decide +kernel
theorem dX9_takesForm_48 : decode cX9_takesForm 48 = .ok (.aload_n 0, 1) := by decide +kernel
theorem dX9_takesForm_49 : decode cX9_takesForm 49 = .ok (.bipush 59, 2) := by decide +kernel
theorem dX9_takesForm_51 : decode cX9_takesForm 51 = .ok (.invokevirtual 152, 3) := by decide +kernel
theorem dX9_takesForm_54 : decode cX9_takesForm 54 = .ok (.ifCond .ne 5, 3) := by decide +kernel
theorem dX9_takesForm_57 : decode cX9_takesForm 57 = .ok (.iconst 0, 1) := by decide +kernel
theorem dX9_takesForm_58 : decode cX9_takesForm 58 = .ok (.ireturn, 1) := by decide +kernel
theorem dX9_takesForm_59 : decode cX9_takesForm 59 = .ok (.aload_n 0, 1) := by decide +kernel
theorem dX9_takesForm_60 : decode cX9_takesForm 60 = .ok (.getfield 7, 3) := by decide +kernel
theorem dX9_takesForm_63 : decode cX9_takesForm 63 = .ok (.iconst 1, 1) := by decide +kernel
theorem dX9_takesForm_64 : decode cX9_takesForm 64 = .ok (.aload_n 0, 1) := by decide +kernel
theorem dX9_takesForm_65 : decode cX9_takesForm 65 = .ok (.getfield 38, 3) := by decide +kernel
theorem dX9_takesForm_68 : decode cX9_takesForm 68 = .ok (.iconst 0, 1) := by decide +kernel
theorem dX9_takesForm_69 : decode cX9_takesForm 69 = .ok (.iaload, 1) := by decide +kernel
theorem dX9_takesForm_70 : decode cX9_takesForm 70 = .ok (.iadd, 1) := by decide +kernel
theorem dX9_takesForm_71 : decode cX9_takesForm 71 = .ok (.iaload, 1) := by decide +kernel
theorem dX9_takesForm_72 : decode cX9_takesForm 72 = .ok (.istore_n 2, 1) := by decide +kernel
theorem dX9_takesForm_73 : decode cX9_takesForm 73 = .ok (.aload_n 0, 1) := by decide +kernel
theorem dX9_takesForm_74 : decode cX9_takesForm 74 = .ok (.iload_n 1, 1) := by decide +kernel
theorem dX9_takesForm_75 : decode cX9_takesForm 75 = .ok (.iload_n 2, 1) := by decide +kernel
theorem dX9_takesForm_76 : decode cX9_takesForm 76 = .ok (.invokevirtual 96, 3) := by decide +kernel
theorem dX9_takesForm_79 : decode cX9_takesForm 79 = .ok (.ifCond .ne 5, 3) := by decide +kernel
theorem dX9_takesForm_82 : decode cX9_takesForm 82 = .ok (.iconst 0, 1) := by decide +kernel
theorem dX9_takesForm_83 : decode cX9_takesForm 83 = .ok (.ireturn, 1) := by decide +kernel
theorem dX9_takesForm_84 : decode cX9_takesForm 84 = .ok (.aload_n 0, 1) := by decide +kernel
theorem dX9_takesForm_85 : decode cX9_takesForm 85 = .ok (.getfield 7, 3) := by decide +kernel
theorem dX9_takesForm_88 : decode cX9_takesForm 88 = .ok (.iconst 1, 1) := by decide +kernel
theorem dX9_takesForm_89 : decode cX9_takesForm 89 = .ok (.iload_n 1, 1) := by decide +kernel
theorem dX9_takesForm_90 : decode cX9_takesForm 90 = .ok (.iadd, 1) := by decide +kernel
theorem dX9_takesForm_91 : decode cX9_takesForm 91 = .ok (.iload_n 2, 1) := by decide +kernel
theorem dX9_takesForm_92 : decode cX9_takesForm 92 = .ok (.iastore, 1) := by decide +kernel
theorem dX9_takesForm_93 : decode cX9_takesForm 93 = .ok (.iconst 1, 1) := by decide +kernel
theorem dX9_takesForm_94 : decode cX9_takesForm 94 = .ok (.ireturn, 1) := by decide +kernel
theorem dX9_load_0 : decode cX9_load 0 = .ok (.iconst 0, 1) := by decide +kernel
theorem dX9_load_1 : decode cX9_load 1 = .ok (.istore_n 1, 1) := by decide +kernel
theorem dX9_load_2 : decode cX9_load 2 = .ok (.iload_n 1, 1) := by decide +kernel
theorem dX9_load_3 : decode cX9_load 3 = .ok (.sipush 874, 3) := by decide +kernel
theorem dX9_load_6 : decode cX9_load 6 = .ok (.if_icmp .ge 21, 3) := by decide +kernel
theorem dX9_load_9 : decode cX9_load 9 = .ok (.aload_n 0, 1) := by decide +kernel
theorem dX9_load_10 : decode cX9_load 10 = .ok (.getfield 16, 3) := by decide +kernel
theorem dX9_load_13 : decode cX9_load 13 = .ok (.iload_n 1, 1) := by decide +kernel
theorem dX9_load_14 : decode cX9_load 14 = .ok (.aload_n 0, 1) := by decide +kernel
theorem dX9_load_15 : decode cX9_load 15 = .ok (.getfield 7, 3) := by decide +kernel
theorem dX9_load_18 : decode cX9_load 18 = .ok (.iload_n 1, 1) := by decide +kernel
theorem dX9_load_19 : decode cX9_load 19 = .ok (.iaload, 1) := by decide +kernel
theorem dX9_load_20 : decode cX9_load 20 = .ok (.iastore, 1) := by decide +kernel
theorem dX9_load_21 : decode cX9_load 21 = .ok (.iinc 1 1, 3) := by decide +kernel
theorem dX9_load_24 : decode cX9_load 24 = .ok (.goto (-22), 3) := by decide +kernel
theorem dX9_load_27 : decode cX9_load 27 = .ok (.aload_n 0, 1) := by decide +kernel
theorem dX9_load_28 : decode cX9_load 28 = .ok (.iconst 0, 1) := by decide +kernel
theorem dX9_load_29 : decode cX9_load 29 = .ok (.putfield 128, 3) := by decide +kernel
theorem dX9_load_32 : decode cX9_load 32 = .ok (.iconst 0, 1) := by decide +kernel
theorem dX9_load_33 : decode cX9_load 33 = .ok (.istore_n 1, 1) := by decide +kernel
theorem dX9_load_34 : decode cX9_load 34 = .ok (.aload_n 0, 1) := by decide +kernel
theorem dX9_load_35 : decode cX9_load 35 = .ok (.invokevirtual 146, 3) := by decide +kernel
theorem dX9_load_38 : decode cX9_load 38 = .ok (.iconst 1, 1) := by decide +kernel
theorem dX9_load_39 : decode cX9_load 39 = .ok (.istore_n 2, 1) := by decide +kernel
theorem dX9_load_40 : decode cX9_load 40 = .ok (.iload_n 2, 1) := by decide +kernel
theorem dX9_load_41 : decode cX9_load 41 = .ok (.ifCond .eq 98, 3) := by decide +kernel
theorem dX9_load_44 : decode cX9_load 44 = .ok (.aload_n 0, 1) := by decide +kernel
theorem dX9_load_45 : decode cX9_load 45 = .ok (.getfield 131, 3) := by decide +kernel
theorem dX9_load_48 : decode cX9_load 48 = .ok (.aload_n 0, 1) := by decide +kernel
theorem dX9_load_49 : decode cX9_load 49 = .ok (.getfield 125, 3) := by decide +kernel
theorem dX9_load_52 : decode cX9_load 52 = .ok (.if_icmp .ge 87, 3) := by decide +kernel
theorem dX9_load_55 : decode cX9_load 55 = .ok (.aload_n 0, 1) := by decide +kernel
theorem dX9_load_56 : decode cX9_load 56 = .ok (.bipush 99, 2) := by decide +kernel
theorem dX9_load_58 : decode cX9_load 58 = .ok (.bipush 104, 2) := by decide +kernel
theorem dX9_load_60 : decode cX9_load 60 = .ok (.iconst 0, 1) := by decide +kernel
theorem dX9_load_61 : decode cX9_load 61 = .ok (.iconst 0, 1) := by decide +kernel
theorem dX9_load_62 : decode cX9_load 62 = .ok (.invokevirtual 158, 3) := by decide +kernel
theorem dX9_load_65 : decode cX9_load 65 = .ok (.ifCond .eq 10, 3) := by decide +kernel
theorem dX9_load_68 : decode cX9_load 68 = .ok (.aload_n 0, 1) := by decide +kernel
theorem dX9_load_69 : decode cX9_load 69 = .ok (.invokevirtual 161, 3) := by decide +kernel
theorem dX9_load_72 : decode cX9_load 72 = .ok (.goto 52, 3) := by decide +kernel
theorem dX9_load_75 : decode cX9_load 75 = .ok (.aload_n 0, 1) := by decide +kernel
theorem dX9_load_76 : decode cX9_load 76 = .ok (.bipush 116, 2) := by decide +kernel
theorem dX9_load_78 : decode cX9_load 78 = .ok (.bipush 101, 2) := by decide +kernel
theorem dX9_load_80 : decode cX9_load 80 = .ok (.bipush 114, 2) := by decide +kernel
theorem dX9_load_82 : decode cX9_load 82 = .ok (.bipush 109, 2) := by decide +kernel
theorem dX9_load_84 : decode cX9_load 84 = .ok (.invokevirtual 158, 3) := by decide +kernel
theorem dX9_load_87 : decode cX9_load 87 = .ok (.ifCond .eq 10, 3) := by decide +kernel
theorem dX9_load_90 : decode cX9_load 90 = .ok (.aload_n 0, 1) := by decide +kernel
theorem dX9_load_91 : decode cX9_load 91 = .ok (.invokevirtual 164, 3) := by decide +kernel
theorem dX9_load_94 : decode cX9_load 94 = .ok (.goto 30, 3) := by decide +kernel
theorem dX9_load_97 : decode cX9_load 97 = .ok (.aload_n 0, 1) := by decide +kernel
theorem dX9_load_98 : decode cX9_load 98 = .ok (.bipush 102, 2) := by decide +kernel
theorem dX9_load_100 : decode cX9_load 100 = .ok (.bipush 111, 2) := by decide +kernel
theorem dX9_load_102 : decode cX9_load 102 = .ok (.bipush 114, 2) := by decide +kernel
theorem dX9_load_104 : decode cX9_load 104 = .ok (.bipush 109, 2) := by decide +kernel
theorem dX9_load_106 : decode cX9_load 106 = .ok (.invokevirtual 158, 3) := by decide +kernel
theorem dX9_load_109 : decode cX9_load 109 = .ok (.ifCond .eq 14, 3) := by decide +kernel
theorem dX9_load_112 : decode cX9_load 112 = .ok (.aload_n 0, 1) := by decide +kernel
theorem dX9_load_113 : decode cX9_load 113 = .ok (.invokevirtual 167, 3) := by decide +kernel
theorem dX9_load_116 : decode cX9_load 116 = .ok (.ifCond .eq 7, 3) := by decide +kernel
theorem dX9_load_119 : decode cX9_load 119 = .ok (.iconst 1, 1) := by decide +kernel
theorem dX9_load_120 : decode cX9_load 120 = .ok (.goto 4, 3) := by decide +kernel
theorem dX9_load_123 : decode cX9_load 123 = .ok (.iconst 0, 1) := by decide +kernel
theorem dX9_load_124 : decode cX9_load 124 = .ok (.istore_n 2, 1) := by decide +kernel
theorem dX9_load_125 : decode cX9_load 125 = .ok (.iload_n 2, 1) := by decide +kernel
theorem dX9_load_126 : decode cX9_load 126 = .ok (.ifCond .eq (-86), 3) := by decide +kernel
theorem dX9_load_129 : decode cX9_load 129 = .ok (.iinc 1 1, 3) := by decide +kernel
theorem dX9_load_132 : decode cX9_load 132 = .ok (.aload_n 0, 1) := by decide +kernel
theorem dX9_load_133 : decode cX9_load 133 = .ok (.invokevirtual 146, 3) := by decide +kernel
theorem dX9_load_136 : decode cX9_load 136 = .ok (.goto (-96), 3) := by decide +kernel
theorem dX9_load_139 : decode cX9_load 139 = .ok (.iload_n 2, 1) := by decide +kernel
theorem dX9_load_140 : decode cX9_load 140 = .ok (.ifCond .ne 39, 3) := by decide +kernel
theorem dX9_load_143 : decode cX9_load 143 = .ok (.iconst 0, 1) := by decide +kernel
theorem dX9_load_144 : decode cX9_load 144 = .ok (.istore_n 3, 1) := by decide +kernel
theorem dX9_load_145 : decode cX9_load 145 = .ok (.iload_n 3, 1) := by decide +kernel
theorem dX9_load_146 : decode cX9_load 146 = .ok (.sipush 874, 3) := by decide +kernel
theorem dX9_load_149 : decode cX9_load 149 = .ok (.if_icmp .ge 21, 3) := by decide +kernel
theorem dX9_load_152 : decode cX9_load 152 = .ok (.aload_n 0, 1) := by decide +kernel
theorem dX9_load_153 : decode cX9_load 153 = .ok (.getfield 7, 3) := by decide +kernel
theorem dX9_load_156 : decode cX9_load 156 = .ok (.iload_n 3, 1) := by decide +kernel
theorem dX9_load_157 : decode cX9_load 157 = .ok (.aload_n 0, 1) := by decide +kernel
theorem dX9_load_158 : decode cX9_load 158 = .ok (.getfield 16, 3) := by decide +kernel
theorem dX9_load_161 : decode cX9_load 161 = .ok (.iload_n 3, 1) := by decide +kernel
theorem dX9_load_162 : decode cX9_load 162 = .ok (.iaload, 1) := by decide +kernel
theorem dX9_load_163 : decode cX9_load 163 = .ok (.iastore, 1) := by decide +kernel
theorem dX9_load_164 : decode cX9_load 164 = .ok (.iinc 3 1, 3) := by decide +kernel
theorem dX9_load_167 : decode cX9_load 167 = .ok (.goto (-22), 3) := by decide +kernel
theorem dX9_load_170 : decode cX9_load 170 = .ok (.sipush (-1000), 3) := by decide +kernel
theorem dX9_load_173 : decode cX9_load 173 = .ok (.aload_n 0, 1) := by decide +kernel
theorem dX9_load_174 : decode cX9_load 174 = .ok (.getfield 131, 3) := by decide +kernel
theorem dX9_load_177 : decode cX9_load 177 = .ok (.isub, 1) := by decide +kernel
theorem dX9_load_178 : decode cX9_load 178 = .ok (.ireturn, 1) := by decide +kernel
theorem dX9_load_179 : decode cX9_load 179 = .ok (.aload_n 0, 1) := by decide +kernel
theorem dX9_load_180 : decode cX9_load 180 = .ok (.aload_n 0, 1) := by decide +kernel
theorem dX9_load_181 : decode cX9_load 181 = .ok (.getfield 16, 3) := by decide +kernel
theorem dX9_load_184 : decode cX9_load 184 = .ok (.invokevirtual 64, 3) := by decide +kernel
theorem dX9_load_187 : decode cX9_load 187 = .ok (.aload_n 0, 1) := by decide +kernel
theorem dX9_load_188 : decode cX9_load 188 = .ok (.iconst 0, 1) := by decide +kernel
theorem dX9_load_189 : decode cX9_load 189 = .ok (.putfield 125, 3) := by decide +kernel
theorem dX9_load_192 : decode cX9_load 192 = .ok (.iload_n 1, 1) := by decide +kernel
theorem dX9_load_193 : decode cX9_load 193 = .ok (.ireturn, 1) := by decide +kernel
theorem dX9_quietTerms_0 : decode cX9_quietTerms 0 = .ok (.iconst 0, 1) := by decide +kernel
theorem dX9_quietTerms_1 : decode cX9_quietTerms 1 = .ok (.istore_n 1, 1) := by decide +kernel
theorem dX9_quietTerms_2 : decode cX9_quietTerms 2 = .ok (.iconst 0, 1) := by decide +kernel
theorem dX9_quietTerms_3 : decode cX9_quietTerms 3 = .ok (.istore_n 2, 1) := by decide +kernel
theorem dX9_quietTerms_4 : decode cX9_quietTerms 4 = .ok (.iload_n 2, 1) := by decide +kernel
theorem dX9_quietTerms_5 : decode cX9_quietTerms 5 = .ok (.aload_n 0, 1) := by decide +kernel
theorem dX9_quietTerms_6 : decode cX9_quietTerms 6 = .ok (.getfield 7, 3) := by decide +kernel
theorem dX9_quietTerms_9 : decode cX9_quietTerms 9 = .ok (.sipush 307, 3) := by decide +kernel
theorem dX9_quietTerms_12 : decode cX9_quietTerms 12 = .ok (.iaload, 1) := by decide +kernel
theorem dX9_quietTerms_13 : decode cX9_quietTerms 13 = .ok (.if_icmp .ge 25, 3) := by decide +kernel
theorem dX9_quietTerms_16 : decode cX9_quietTerms 16 = .ok (.iload_n 1, 1) := by decide +kernel
theorem dX9_quietTerms_17 : decode cX9_quietTerms 17 = .ok (.aload_n 0, 1) := by decide +kernel
theorem dX9_quietTerms_18 : decode cX9_quietTerms 18 = .ok (.iload_n 2, 1) := by decide +kernel
theorem dX9_quietTerms_19 : decode cX9_quietTerms 19 = .ok (.invokevirtual 115, 3) := by decide +kernel
theorem dX9_quietTerms_22 : decode cX9_quietTerms 22 = .ok (.ifCond .eq 7, 3) := by decide +kernel
theorem dX9_quietTerms_25 : decode cX9_quietTerms 25 = .ok (.iconst 1, 1) := by decide +kernel
theorem dX9_quietTerms_26 : decode cX9_quietTerms 26 = .ok (.goto 4, 3) := by decide +kernel
theorem dX9_quietTerms_29 : decode cX9_quietTerms 29 = .ok (.iconst 0, 1) := by decide +kernel
theorem dX9_quietTerms_30 : decode cX9_quietTerms 30 = .ok (.iadd, 1) := by decide +kernel
theorem dX9_quietTerms_31 : decode cX9_quietTerms 31 = .ok (.istore_n 1, 1) := by decide +kernel
theorem dX9_quietTerms_32 : decode cX9_quietTerms 32 = .ok (.iinc 2 1, 3) := by decide +kernel
theorem dX9_quietTerms_35 : decode cX9_quietTerms 35 = .ok (.goto (-31), 3) := by decide +kernel
theorem dX9_quietTerms_38 : decode cX9_quietTerms 38 = .ok (.iload_n 1, 1) := by decide +kernel
theorem dX9_quietTerms_39 : decode cX9_quietTerms 39 = .ok (.ireturn, 1) := by decide +kernel
theorem dX9_forms_0 : decode cX9_forms 0 = .ok (.iconst 0, 1) := by decide +kernel
theorem dX9_forms_1 : decode cX9_forms 1 = .ok (.istore_n 1, 1) := by decide +kernel
theorem dX9_forms_2 : decode cX9_forms 2 = .ok (.iconst 0, 1) := by decide +kernel
theorem dX9_forms_3 : decode cX9_forms 3 = .ok (.istore_n 2, 1) := by decide +kernel
theorem dX9_forms_4 : decode cX9_forms 4 = .ok (.iload_n 2, 1) := by decide +kernel
theorem dX9_forms_5 : decode cX9_forms 5 = .ok (.aload_n 0, 1) := by decide +kernel
theorem dX9_forms_6 : decode cX9_forms 6 = .ok (.getfield 7, 3) := by decide +kernel
theorem dX9_forms_9 : decode cX9_forms 9 = .ok (.iconst 0, 1) := by decide +kernel
theorem dX9_forms_10 : decode cX9_forms 10 = .ok (.iaload, 1) := by decide +kernel
theorem dX9_forms_11 : decode cX9_forms 11 = .ok (.if_icmp .ge 29, 3) := by decide +kernel
theorem dX9_forms_14 : decode cX9_forms 14 = .ok (.iload_n 1, 1) := by decide +kernel
theorem dX9_forms_15 : decode cX9_forms 15 = .ok (.aload_n 0, 1) := by decide +kernel
theorem dX9_forms_16 : decode cX9_forms 16 = .ok (.getfield 7, 3) := by decide +kernel
theorem dX9_forms_19 : decode cX9_forms 19 = .ok (.iconst 1, 1) := by decide +kernel
theorem dX9_forms_20 : decode cX9_forms 20 = .ok (.iload_n 2, 1) := by decide +kernel
theorem dX9_forms_21 : decode cX9_forms 21 = .ok (.iadd, 1) := by decide +kernel
theorem dX9_forms_22 : decode cX9_forms 22 = .ok (.iaload, 1) := by decide +kernel
theorem dX9_forms_23 : decode cX9_forms 23 = .ok (.iload_n 2, 1) := by decide +kernel
theorem dX9_forms_24 : decode cX9_forms 24 = .ok (.if_icmp .ne 7, 3) := by decide +kernel
theorem dX9_forms_27 : decode cX9_forms 27 = .ok (.iconst 0, 1) := by decide +kernel
theorem dX9_forms_28 : decode cX9_forms 28 = .ok (.goto 4, 3) := by decide +kernel
theorem dX9_forms_31 : decode cX9_forms 31 = .ok (.iconst 1, 1) := by decide +kernel
theorem dX9_forms_32 : decode cX9_forms 32 = .ok (.iadd, 1) := by decide +kernel
theorem dX9_forms_33 : decode cX9_forms 33 = .ok (.istore_n 1, 1) := by decide +kernel
theorem dX9_forms_34 : decode cX9_forms 34 = .ok (.iinc 2 1, 3) := by decide +kernel
theorem dX9_forms_37 : decode cX9_forms 37 = .ok (.goto (-33), 3) := by decide +kernel
theorem dX9_forms_40 : decode cX9_forms 40 = .ok (.iload_n 1, 1) := by decide +kernel
theorem dX9_forms_41 : decode cX9_forms 41 = .ok (.ireturn, 1) := by decide +kernel
theorem dX9_count_0 : decode cX9_count 0 = .ok (.iload_n 1, 1) := by decide +kernel
theorem dX9_count_1 : decode cX9_count 1 = .ok (.tableswitch 127 0 9 #[55, 62, 67, 76, 81, 87, 94, 99, 117, 122], 55) := by decide +kernel
theorem dX9_count_56 : decode cX9_count 56 = .ok (.aload_n 0, 1) := by decide +kernel
theorem dX9_count_57 : decode cX9_count 57 = .ok (.getfield 7, 3) := by decide +kernel
theorem dX9_count_60 : decode cX9_count 60 = .ok (.iconst 0, 1) := by decide +kernel
theorem dX9_count_61 : decode cX9_count 61 = .ok (.iaload, 1) := by decide +kernel
theorem dX9_count_62 : decode cX9_count 62 = .ok (.ireturn, 1) := by decide +kernel
theorem dX9_count_63 : decode cX9_count 63 = .ok (.aload_n 0, 1) := by decide +kernel
theorem dX9_count_64 : decode cX9_count 64 = .ok (.invokevirtual 102, 3) := by decide +kernel
theorem dX9_count_67 : decode cX9_count 67 = .ok (.ireturn, 1) := by decide +kernel
theorem dX9_count_68 : decode cX9_count 68 = .ok (.aload_n 0, 1) := by decide +kernel
theorem dX9_count_69 : decode cX9_count 69 = .ok (.getfield 7, 3) := by decide +kernel
theorem dX9_count_72 : decode cX9_count 72 = .ok (.sipush 307, 3) := by decide +kernel
theorem dX9_count_75 : decode cX9_count 75 = .ok (.iaload, 1) := by decide +kernel
theorem dX9_count_76 : decode cX9_count 76 = .ok (.ireturn, 1) := by decide +kernel
theorem dX9_count_77 : decode cX9_count 77 = .ok (.aload_n 0, 1) := by decide +kernel
theorem dX9_count_78 : decode cX9_count 78 = .ok (.invokevirtual 170, 3) := by decide +kernel
theorem dX9_count_81 : decode cX9_count 81 = .ok (.ireturn, 1) := by decide +kernel
theorem dX9_count_82 : decode cX9_count 82 = .ok (.aload_n 0, 1) := by decide +kernel
theorem dX9_count_83 : decode cX9_count 83 = .ok (.iconst (-1), 1) := by decide +kernel
theorem dX9_count_84 : decode cX9_count 84 = .ok (.invokevirtual 68, 3) := by decide +kernel
theorem dX9_count_87 : decode cX9_count 87 = .ok (.ireturn, 1) := by decide +kernel
theorem dX9_count_88 : decode cX9_count 88 = .ok (.aload_n 0, 1) := by decide +kernel
theorem dX9_count_89 : decode cX9_count 89 = .ok (.bipush (-99), 2) := by decide +kernel
theorem dX9_count_91 : decode cX9_count 91 = .ok (.invokevirtual 173, 3) := by decide +kernel
theorem dX9_count_94 : decode cX9_count 94 = .ok (.ireturn, 1) := by decide +kernel
theorem dX9_count_95 : decode cX9_count 95 = .ok (.aload_n 0, 1) := by decide +kernel
theorem dX9_count_96 : decode cX9_count 96 = .ok (.invokevirtual 176, 3) := by decide +kernel
theorem dX9_count_99 : decode cX9_count 99 = .ok (.ireturn, 1) := by decide +kernel
theorem dX9_count_100 : decode cX9_count 100 = .ok (.aload_n 0, 1) := by decide +kernel
theorem dX9_count_101 : decode cX9_count 101 = .ok (.getfield 7, 3) := by decide +kernel
theorem dX9_count_104 : decode cX9_count 104 = .ok (.sipush 380, 3) := by decide +kernel
theorem dX9_count_107 : decode cX9_count 107 = .ok (.iaload, 1) := by decide +kernel
theorem dX9_count_108 : decode cX9_count 108 = .ok (.aload_n 0, 1) := by decide +kernel
theorem dX9_count_109 : decode cX9_count 109 = .ok (.getfield 7, 3) := by decide +kernel
theorem dX9_count_112 : decode cX9_count 112 = .ok (.sipush 627, 3) := by decide +kernel
theorem dX9_count_115 : decode cX9_count 115 = .ok (.iaload, 1) := by decide +kernel
theorem dX9_count_116 : decode cX9_count 116 = .ok (.iadd, 1) := by decide +kernel
theorem dX9_count_117 : decode cX9_count 117 = .ok (.ireturn, 1) := by decide +kernel
theorem dX9_count_118 : decode cX9_count 118 = .ok (.aload_n 0, 1) := by decide +kernel
theorem dX9_count_119 : decode cX9_count 119 = .ok (.getfield 41, 3) := by decide +kernel
theorem dX9_count_122 : decode cX9_count 122 = .ok (.ireturn, 1) := by decide +kernel
theorem dX9_count_123 : decode cX9_count 123 = .ok (.aload_n 0, 1) := by decide +kernel
theorem dX9_count_124 : decode cX9_count 124 = .ok (.getfield 125, 3) := by decide +kernel
theorem dX9_count_127 : decode cX9_count 127 = .ok (.ireturn, 1) := by decide +kernel
theorem dX9_count_128 : decode cX9_count 128 = .ok (.iconst (-1), 1) := by decide +kernel
theorem dX9_count_129 : decode cX9_count 129 = .ok (.ireturn, 1) := by decide +kernel
theorem dX9_letter_0 : decode cX9_letter 0 = .ok (.aload_n 0, 1) := by decide +kernel
theorem dX9_letter_1 : decode cX9_letter 1 = .ok (.iload_n 1, 1) := by decide +kernel
theorem dX9_letter_2 : decode cX9_letter 2 = .ok (.invokevirtual 61, 3) := by decide +kernel
theorem dX9_letter_5 : decode cX9_letter 5 = .ok (.ifCond .eq 7, 3) := by decide +kernel
theorem dX9_letter_8 : decode cX9_letter 8 = .ok (.iload_n 2, 1) := by decide +kernel
theorem dX9_letter_9 : decode cX9_letter 9 = .ok (.ifCond .ge 5, 3) := by decide +kernel
theorem dX9_letter_12 : decode cX9_letter 12 = .ok (.iconst (-1), 1) := by decide +kernel
theorem dX9_letter_13 : decode cX9_letter 13 = .ok (.ireturn, 1) := by decide +kernel
theorem dX9_letter_14 : decode cX9_letter 14 = .ok (.iload_n 2, 1) := by decide +kernel
theorem dX9_letter_15 : decode cX9_letter 15 = .ok (.bipush 8, 2) := by decide +kernel
theorem dX9_letter_17 : decode cX9_letter 17 = .ok (.if_icmp .ge 17, 3) := by decide +kernel
theorem dX9_letter_20 : decode cX9_letter 20 = .ok (.aload_n 0, 1) := by decide +kernel
theorem dX9_letter_21 : decode cX9_letter 21 = .ok (.getfield 22, 3) := by decide +kernel
theorem dX9_letter_24 : decode cX9_letter 24 = .ok (.bipush 8, 2) := by decide +kernel
theorem dX9_letter_26 : decode cX9_letter 26 = .ok (.iload_n 1, 1) := by decide +kernel
theorem dX9_letter_27 : decode cX9_letter 27 = .ok (.imul, 1) := by decide +kernel
theorem dX9_letter_28 : decode cX9_letter 28 = .ok (.iload_n 2, 1) := by decide +kernel
theorem dX9_letter_29 : decode cX9_letter 29 = .ok (.iadd, 1) := by decide +kernel
theorem dX9_letter_30 : decode cX9_letter 30 = .ok (.iaload, 1) := by decide +kernel
theorem dX9_letter_31 : decode cX9_letter 31 = .ok (.goto 4, 3) := by decide +kernel
theorem dX9_letter_34 : decode cX9_letter 34 = .ok (.iconst 0, 1) := by decide +kernel
theorem dX9_letter_35 : decode cX9_letter 35 = .ok (.istore_n 3, 1) := by decide +kernel
theorem dX9_letter_36 : decode cX9_letter 36 = .ok (.iload_n 3, 1) := by decide +kernel
theorem dX9_letter_37 : decode cX9_letter 37 = .ok (.ifCond .ne 8, 3) := by decide +kernel
theorem dX9_letter_40 : decode cX9_letter 40 = .ok (.bipush (-99), 2) := by decide +kernel
theorem dX9_letter_42 : decode cX9_letter 42 = .ok (.goto 4, 3) := by decide +kernel
theorem dX9_letter_45 : decode cX9_letter 45 = .ok (.iload_n 3, 1) := by decide +kernel
theorem dX9_letter_46 : decode cX9_letter 46 = .ok (.ireturn, 1) := by decide +kernel
theorem dX9_base_0 : decode cX9_base 0 = .ok (.aload_n 0, 1) := by decide +kernel
theorem dX9_base_1 : decode cX9_base 1 = .ok (.iload_n 1, 1) := by decide +kernel
theorem dX9_base_2 : decode cX9_base 2 = .ok (.invokevirtual 61, 3) := by decide +kernel
theorem dX9_base_5 : decode cX9_base 5 = .ok (.ifCond .eq 14, 3) := by decide +kernel
theorem dX9_base_8 : decode cX9_base 8 = .ok (.aload_n 0, 1) := by decide +kernel
theorem dX9_base_9 : decode cX9_base 9 = .ok (.getfield 7, 3) := by decide +kernel
theorem dX9_base_12 : decode cX9_base 12 = .ok (.iconst 1, 1) := by decide +kernel
theorem dX9_base_13 : decode cX9_base 13 = .ok (.iload_n 1, 1) := by decide +kernel
theorem dX9_base_14 : decode cX9_base 14 = .ok (.iadd, 1) := by decide +kernel
theorem dX9_base_15 : decode cX9_base 15 = .ok (.iaload, 1) := by decide +kernel
theorem dX9_base_16 : decode cX9_base 16 = .ok (.goto 4, 3) := by decide +kernel
theorem dX9_base_19 : decode cX9_base 19 = .ok (.iconst (-1), 1) := by decide +kernel
theorem dX9_base_20 : decode cX9_base 20 = .ok (.ireturn, 1) := by decide +kernel
theorem dX9_place_0 : decode cX9_place 0 = .ok (.iload_n 1, 1) := by decide +kernel
theorem dX9_place_1 : decode cX9_place 1 = .ok (.invokestatic 53, 3) := by decide +kernel
theorem dX9_place_4 : decode cX9_place 4 = .ok (.ifCond .eq 16, 3) := by decide +kernel
theorem dX9_place_7 : decode cX9_place 7 = .ok (.iload_n 3, 1) := by decide +kernel
theorem dX9_place_8 : decode cX9_place 8 = .ok (.iconst 0, 1) := by decide +kernel
theorem dX9_place_9 : decode cX9_place 9 = .ok (.iconst 3, 1) := by decide +kernel
theorem dX9_place_10 : decode cX9_place 10 = .ok (.invokestatic 45, 3) := by decide +kernel
theorem dX9_place_13 : decode cX9_place 13 = .ok (.ifCond .eq 7, 3) := by decide +kernel
theorem dX9_place_16 : decode cX9_place 16 = .ok (.iload_n 2, 1) := by decide +kernel
theorem dX9_place_17 : decode cX9_place 17 = .ok (.ifCond .ge 5, 3) := by decide +kernel
theorem dX9_place_20 : decode cX9_place 20 = .ok (.iconst (-1), 1) := by decide +kernel
theorem dX9_place_21 : decode cX9_place 21 = .ok (.ireturn, 1) := by decide +kernel
theorem dX9_place_22 : decode cX9_place 22 = .ok (.iload_n 2, 1) := by decide +kernel
theorem dX9_place_23 : decode cX9_place 23 = .ok (.aload_n 0, 1) := by decide +kernel
theorem dX9_place_24 : decode cX9_place 24 = .ok (.iload_n 1, 1) := by decide +kernel
theorem dX9_place_25 : decode cX9_place 25 = .ok (.invokevirtual 57, 3) := by decide +kernel
theorem dX9_place_28 : decode cX9_place 28 = .ok (.if_icmp .lt 6, 3) := by decide +kernel
theorem dX9_place_31 : decode cX9_place 31 = .ok (.bipush (-99), 2) := by decide +kernel
theorem dX9_place_33 : decode cX9_place 33 = .ok (.ireturn, 1) := by decide +kernel
theorem dX9_place_34 : decode cX9_place 34 = .ok (.aload_n 0, 1) := by decide +kernel
theorem dX9_place_35 : decode cX9_place 35 = .ok (.iload_n 1, 1) := by decide +kernel
theorem dX9_place_36 : decode cX9_place 36 = .ok (.invokevirtual 122, 3) := by decide +kernel
theorem dX9_place_39 : decode cX9_place 39 = .ok (.istore 4, 2) := by decide +kernel
theorem dX9_place_41 : decode cX9_place 41 = .ok (.iload_n 3, 1) := by decide +kernel
theorem dX9_place_42 : decode cX9_place 42 = .ok (.ifCond .ne 16, 3) := by decide +kernel
theorem dX9_place_45 : decode cX9_place 45 = .ok (.aload_n 0, 1) := by decide +kernel
theorem dX9_place_46 : decode cX9_place 46 = .ok (.getfield 7, 3) := by decide +kernel
theorem dX9_place_49 : decode cX9_place 49 = .ok (.iload_n 1, 1) := by decide +kernel
theorem dX9_place_50 : decode cX9_place 50 = .ok (.iload_n 2, 1) := by decide +kernel
theorem dX9_place_51 : decode cX9_place 51 = .ok (.invokestatic 49, 3) := by decide +kernel
theorem dX9_place_54 : decode cX9_place 54 = .ok (.iaload, 1) := by decide +kernel
theorem dX9_place_55 : decode cX9_place 55 = .ok (.goto 50, 3) := by decide +kernel
theorem dX9_place_58 : decode cX9_place 58 = .ok (.iload_n 3, 1) := by decide +kernel
theorem dX9_place_59 : decode cX9_place 59 = .ok (.iconst 1, 1) := by decide +kernel
theorem dX9_place_60 : decode cX9_place 60 = .ok (.if_icmp .ne 12, 3) := by decide +kernel
theorem dX9_place_63 : decode cX9_place 63 = .ok (.aload_n 0, 1) := by decide +kernel
theorem dX9_place_64 : decode cX9_place 64 = .ok (.getfield 28, 3) := by decide +kernel
theorem dX9_place_67 : decode cX9_place 67 = .ok (.iload_n 2, 1) := by decide +kernel
theorem dX9_place_68 : decode cX9_place 68 = .ok (.iaload, 1) := by decide +kernel
theorem dX9_place_69 : decode cX9_place 69 = .ok (.goto 36, 3) := by decide +kernel
theorem dX9_place_72 : decode cX9_place 72 = .ok (.iload_n 3, 1) := by decide +kernel
theorem dX9_place_73 : decode cX9_place 73 = .ok (.iconst 2, 1) := by decide +kernel
theorem dX9_place_74 : decode cX9_place 74 = .ok (.if_icmp .ne 12, 3) := by decide +kernel
theorem dX9_place_77 : decode cX9_place 77 = .ok (.aload_n 0, 1) := by decide +kernel
theorem dX9_place_78 : decode cX9_place 78 = .ok (.getfield 31, 3) := by decide +kernel
theorem dX9_place_81 : decode cX9_place 81 = .ok (.iload_n 2, 1) := by decide +kernel
theorem dX9_place_82 : decode cX9_place 82 = .ok (.iaload, 1) := by decide +kernel
theorem dX9_place_83 : decode cX9_place 83 = .ok (.goto 22, 3) := by decide +kernel
theorem dX9_place_86 : decode cX9_place 86 = .ok (.aload_n 0, 1) := by decide +kernel
theorem dX9_place_87 : decode cX9_place 87 = .ok (.getfield 34, 3) := by decide +kernel
theorem dX9_place_90 : decode cX9_place 90 = .ok (.iload_n 2, 1) := by decide +kernel
theorem dX9_place_91 : decode cX9_place 91 = .ok (.baload, 1) := by decide +kernel
theorem dX9_place_92 : decode cX9_place 92 = .ok (.ifCond .eq 12, 3) := by decide +kernel
theorem dX9_place_95 : decode cX9_place 95 = .ok (.iload 4, 2) := by decide +kernel
theorem dX9_place_97 : decode cX9_place 97 = .ok (.ifCond .le 7, 3) := by decide +kernel
theorem dX9_place_100 : decode cX9_place 100 = .ok (.iconst 1, 1) := by decide +kernel
theorem dX9_place_101 : decode cX9_place 101 = .ok (.goto 4, 3) := by decide +kernel
theorem dX9_place_104 : decode cX9_place 104 = .ok (.iconst 0, 1) := by decide +kernel
theorem dX9_place_105 : decode cX9_place 105 = .ok (.ireturn, 1) := by decide +kernel
theorem dX9_occurrences_0 : decode cX9_occurrences 0 = .ok (.iconst 0, 1) := by decide +kernel
theorem dX9_occurrences_1 : decode cX9_occurrences 1 = .ok (.istore_n 2, 1) := by decide +kernel
theorem dX9_occurrences_2 : decode cX9_occurrences 2 = .ok (.iconst 0, 1) := by decide +kernel
theorem dX9_occurrences_3 : decode cX9_occurrences 3 = .ok (.istore_n 3, 1) := by decide +kernel
theorem dX9_occurrences_4 : decode cX9_occurrences 4 = .ok (.iload_n 3, 1) := by decide +kernel
theorem dX9_occurrences_5 : decode cX9_occurrences 5 = .ok (.bipush 6, 2) := by decide +kernel
theorem dX9_occurrences_7 : decode cX9_occurrences 7 = .ok (.if_icmp .ge 47, 3) := by decide +kernel
theorem dX9_occurrences_10 : decode cX9_occurrences 10 = .ok (.iconst 0, 1) := by decide +kernel
theorem dX9_occurrences_11 : decode cX9_occurrences 11 = .ok (.istore 4, 2) := by decide +kernel
theorem dX9_occurrences_13 : decode cX9_occurrences 13 = .ok (.iload 4, 2) := by decide +kernel
theorem dX9_occurrences_15 : decode cX9_occurrences 15 = .ok (.aload_n 0, 1) := by decide +kernel
theorem dX9_occurrences_16 : decode cX9_occurrences 16 = .ok (.iload_n 3, 1) := by decide +kernel
theorem dX9_occurrences_17 : decode cX9_occurrences 17 = .ok (.invokevirtual 57, 3) := by decide +kernel
theorem dX9_occurrences_20 : decode cX9_occurrences 20 = .ok (.if_icmp .ge 28, 3) := by decide +kernel
theorem dX9_occurrences_23 : decode cX9_occurrences 23 = .ok (.iload_n 2, 1) := by decide +kernel
theorem dX9_occurrences_24 : decode cX9_occurrences 24 = .ok (.aload_n 0, 1) := by decide +kernel
theorem dX9_occurrences_25 : decode cX9_occurrences 25 = .ok (.iload_n 1, 1) := by decide +kernel
theorem dX9_occurrences_26 : decode cX9_occurrences 26 = .ok (.iload_n 3, 1) := by decide +kernel
theorem dX9_occurrences_27 : decode cX9_occurrences 27 = .ok (.iload 4, 2) := by decide +kernel
theorem dX9_occurrences_29 : decode cX9_occurrences 29 = .ok (.invokevirtual 108, 3) := by decide +kernel
theorem dX9_occurrences_32 : decode cX9_occurrences 32 = .ok (.ifCond .eq 7, 3) := by decide +kernel
theorem dX9_occurrences_35 : decode cX9_occurrences 35 = .ok (.iconst 1, 1) := by decide +kernel
theorem dX9_occurrences_36 : decode cX9_occurrences 36 = .ok (.goto 4, 3) := by decide +kernel
theorem dX9_occurrences_39 : decode cX9_occurrences 39 = .ok (.iconst 0, 1) := by decide +kernel
theorem dX9_occurrences_40 : decode cX9_occurrences 40 = .ok (.iadd, 1) := by decide +kernel
theorem dX9_occurrences_41 : decode cX9_occurrences 41 = .ok (.istore_n 2, 1) := by decide +kernel
theorem dX9_occurrences_42 : decode cX9_occurrences 42 = .ok (.iinc 4 1, 3) := by decide +kernel
theorem dX9_occurrences_45 : decode cX9_occurrences 45 = .ok (.goto (-32), 3) := by decide +kernel
theorem dX9_occurrences_48 : decode cX9_occurrences 48 = .ok (.iinc 3 1, 3) := by decide +kernel
theorem dX9_occurrences_51 : decode cX9_occurrences 51 = .ok (.goto (-47), 3) := by decide +kernel
theorem dX9_occurrences_54 : decode cX9_occurrences 54 = .ok (.iload_n 2, 1) := by decide +kernel
theorem dX9_occurrences_55 : decode cX9_occurrences 55 = .ok (.ireturn, 1) := by decide +kernel
theorem dX9_marksOf_0 : decode cX9_marksOf 0 = .ok (.iconst 0, 1) := by decide +kernel
theorem dX9_marksOf_1 : decode cX9_marksOf 1 = .ok (.istore_n 2, 1) := by decide +kernel
theorem dX9_marksOf_2 : decode cX9_marksOf 2 = .ok (.iconst 0, 1) := by decide +kernel
theorem dX9_marksOf_3 : decode cX9_marksOf 3 = .ok (.istore_n 3, 1) := by decide +kernel
theorem dX9_marksOf_4 : decode cX9_marksOf 4 = .ok (.iload_n 3, 1) := by decide +kernel
theorem dX9_marksOf_5 : decode cX9_marksOf 5 = .ok (.bipush 6, 2) := by decide +kernel
theorem dX9_marksOf_7 : decode cX9_marksOf 7 = .ok (.if_icmp .ge 36, 3) := by decide +kernel
theorem dX9_marksOf_10 : decode cX9_marksOf 10 = .ok (.iload_n 2, 1) := by decide +kernel
theorem dX9_marksOf_11 : decode cX9_marksOf 11 = .ok (.aload_n 0, 1) := by decide +kernel
theorem dX9_marksOf_12 : decode cX9_marksOf 12 = .ok (.iload_n 1, 1) := by decide +kernel
theorem dX9_marksOf_13 : decode cX9_marksOf 13 = .ok (.invokevirtual 115, 3) := by decide +kernel
theorem dX9_marksOf_16 : decode cX9_marksOf 16 = .ok (.ifCond .ne 18, 3) := by decide +kernel
theorem dX9_marksOf_19 : decode cX9_marksOf 19 = .ok (.aload_n 0, 1) := by decide +kernel
theorem dX9_marksOf_20 : decode cX9_marksOf 20 = .ok (.iload_n 1, 1) := by decide +kernel
theorem dX9_marksOf_21 : decode cX9_marksOf 21 = .ok (.iload_n 3, 1) := by decide +kernel
theorem dX9_marksOf_22 : decode cX9_marksOf 22 = .ok (.invokevirtual 179, 3) := by decide +kernel
theorem dX9_marksOf_25 : decode cX9_marksOf 25 = .ok (.bipush (-99), 2) := by decide +kernel
theorem dX9_marksOf_27 : decode cX9_marksOf 27 = .ok (.if_icmp .eq 7, 3) := by decide +kernel
theorem dX9_marksOf_30 : decode cX9_marksOf 30 = .ok (.iconst 1, 1) := by decide +kernel
theorem dX9_marksOf_31 : decode cX9_marksOf 31 = .ok (.goto 4, 3) := by decide +kernel
theorem dX9_marksOf_34 : decode cX9_marksOf 34 = .ok (.iconst 0, 1) := by decide +kernel
theorem dX9_marksOf_35 : decode cX9_marksOf 35 = .ok (.iadd, 1) := by decide +kernel
theorem dX9_marksOf_36 : decode cX9_marksOf 36 = .ok (.istore_n 2, 1) := by decide +kernel
theorem dX9_marksOf_37 : decode cX9_marksOf 37 = .ok (.iinc 3 1, 3) := by decide +kernel
theorem dX9_marksOf_40 : decode cX9_marksOf 40 = .ok (.goto (-36), 3) := by decide +kernel
theorem dX9_marksOf_43 : decode cX9_marksOf 43 = .ok (.iload_n 2, 1) := by decide +kernel
theorem dX9_marksOf_44 : decode cX9_marksOf 44 = .ok (.ireturn, 1) := by decide +kernel
theorem dX9_firstIn_0 : decode cX9_firstIn 0 = .ok (.aload_n 0, 1) := by decide +kernel
theorem dX9_firstIn_1 : decode cX9_firstIn 1 = .ok (.iload_n 2, 1) := by decide +kernel
theorem dX9_firstIn_2 : decode cX9_firstIn 2 = .ok (.invokevirtual 122, 3) := by decide +kernel
theorem dX9_firstIn_5 : decode cX9_firstIn 5 = .ok (.istore_n 3, 1) := by decide +kernel
theorem dX9_firstIn_6 : decode cX9_firstIn 6 = .ok (.iconst 0, 1) := by decide +kernel
theorem dX9_firstIn_7 : decode cX9_firstIn 7 = .ok (.istore 4, 2) := by decide +kernel
theorem dX9_firstIn_9 : decode cX9_firstIn 9 = .ok (.iload 4, 2) := by decide +kernel
theorem dX9_firstIn_11 : decode cX9_firstIn 11 = .ok (.aload_n 0, 1) := by decide +kernel
theorem dX9_firstIn_12 : decode cX9_firstIn 12 = .ok (.iload_n 2, 1) := by decide +kernel
theorem dX9_firstIn_13 : decode cX9_firstIn 13 = .ok (.invokevirtual 57, 3) := by decide +kernel
theorem dX9_firstIn_16 : decode cX9_firstIn 16 = .ok (.if_icmp .ge 27, 3) := by decide +kernel
theorem dX9_firstIn_19 : decode cX9_firstIn 19 = .ok (.iload_n 3, 1) := by decide +kernel
theorem dX9_firstIn_20 : decode cX9_firstIn 20 = .ok (.ifCond .lt 23, 3) := by decide +kernel
theorem dX9_firstIn_23 : decode cX9_firstIn 23 = .ok (.aload_n 0, 1) := by decide +kernel
theorem dX9_firstIn_24 : decode cX9_firstIn 24 = .ok (.getfield 28, 3) := by decide +kernel
theorem dX9_firstIn_27 : decode cX9_firstIn 27 = .ok (.iload 4, 2) := by decide +kernel
theorem dX9_firstIn_29 : decode cX9_firstIn 29 = .ok (.iaload, 1) := by decide +kernel
theorem dX9_firstIn_30 : decode cX9_firstIn 30 = .ok (.iload_n 1, 1) := by decide +kernel
theorem dX9_firstIn_31 : decode cX9_firstIn 31 = .ok (.if_icmp .ne 6, 3) := by decide +kernel
theorem dX9_firstIn_34 : decode cX9_firstIn 34 = .ok (.iload 4, 2) := by decide +kernel
theorem dX9_firstIn_36 : decode cX9_firstIn 36 = .ok (.ireturn, 1) := by decide +kernel
theorem dX9_firstIn_37 : decode cX9_firstIn 37 = .ok (.iinc 4 1, 3) := by decide +kernel
theorem dX9_firstIn_40 : decode cX9_firstIn 40 = .ok (.goto (-31), 3) := by decide +kernel
theorem dX9_firstIn_43 : decode cX9_firstIn 43 = .ok (.bipush (-99), 2) := by decide +kernel
theorem dX9_firstIn_45 : decode cX9_firstIn 45 = .ok (.ireturn, 1) := by decide +kernel
theorem dX9_term_0 : decode cX9_term 0 = .ok (.aload_n 0, 1) := by decide +kernel
theorem dX9_term_1 : decode cX9_term 1 = .ok (.iload_n 1, 1) := by decide +kernel
theorem dX9_term_2 : decode cX9_term 2 = .ok (.invokevirtual 90, 3) := by decide +kernel
theorem dX9_term_5 : decode cX9_term 5 = .ok (.ifCond .eq 13, 3) := by decide +kernel
theorem dX9_term_8 : decode cX9_term 8 = .ok (.iload_n 2, 1) := by decide +kernel
theorem dX9_term_9 : decode cX9_term 9 = .ok (.iconst 0, 1) := by decide +kernel
theorem dX9_term_10 : decode cX9_term 10 = .ok (.bipush 8, 2) := by decide +kernel
theorem dX9_term_12 : decode cX9_term 12 = .ok (.invokestatic 45, 3) := by decide +kernel
theorem dX9_term_15 : decode cX9_term 15 = .ok (.ifCond .ne 5, 3) := by decide +kernel
theorem dX9_term_18 : decode cX9_term 18 = .ok (.iconst (-1), 1) := by decide +kernel
theorem dX9_term_19 : decode cX9_term 19 = .ok (.ireturn, 1) := by decide +kernel
theorem dX9_term_20 : decode cX9_term 20 = .ok (.iload_n 2, 1) := by decide +kernel
theorem dX9_term_21 : decode cX9_term 21 = .ok (.tableswitch 102 0 7 #[47, 54, 54, 54, 54, 76, 90, 96], 47) := by decide +kernel
theorem dX9_term_68 : decode cX9_term 68 = .ok (.aload_n 0, 1) := by decide +kernel
theorem dX9_term_69 : decode cX9_term 69 = .ok (.iload_n 1, 1) := by decide +kernel
theorem dX9_term_70 : decode cX9_term 70 = .ok (.iconst 0, 1) := by decide +kernel
theorem dX9_term_71 : decode cX9_term 71 = .ok (.invokevirtual 71, 3) := by decide +kernel
theorem dX9_term_74 : decode cX9_term 74 = .ok (.ireturn, 1) := by decide +kernel
theorem dX9_term_75 : decode cX9_term 75 = .ok (.iload_n 2, 1) := by decide +kernel
theorem dX9_term_76 : decode cX9_term 76 = .ok (.aload_n 0, 1) := by decide +kernel
theorem dX9_term_77 : decode cX9_term 77 = .ok (.iload_n 1, 1) := by decide +kernel
theorem dX9_term_78 : decode cX9_term 78 = .ok (.iconst 0, 1) := by decide +kernel
theorem dX9_term_79 : decode cX9_term 79 = .ok (.invokevirtual 71, 3) := by decide +kernel
theorem dX9_term_82 : decode cX9_term 82 = .ok (.if_icmp .gt 12, 3) := by decide +kernel
theorem dX9_term_85 : decode cX9_term 85 = .ok (.aload_n 0, 1) := by decide +kernel
theorem dX9_term_86 : decode cX9_term 86 = .ok (.iload_n 1, 1) := by decide +kernel
theorem dX9_term_87 : decode cX9_term 87 = .ok (.iload_n 2, 1) := by decide +kernel
theorem dX9_term_88 : decode cX9_term 88 = .ok (.invokevirtual 71, 3) := by decide +kernel
theorem dX9_term_91 : decode cX9_term 91 = .ok (.goto 5, 3) := by decide +kernel
theorem dX9_term_94 : decode cX9_term 94 = .ok (.bipush (-99), 2) := by decide +kernel
theorem dX9_term_96 : decode cX9_term 96 = .ok (.ireturn, 1) := by decide +kernel
theorem dX9_term_97 : decode cX9_term 97 = .ok (.aload_n 0, 1) := by decide +kernel
theorem dX9_term_98 : decode cX9_term 98 = .ok (.iload_n 1, 1) := by decide +kernel
theorem dX9_term_99 : decode cX9_term 99 = .ok (.invokevirtual 115, 3) := by decide +kernel
theorem dX9_term_102 : decode cX9_term 102 = .ok (.ifCond .eq 7, 3) := by decide +kernel
theorem dX9_term_105 : decode cX9_term 105 = .ok (.iconst 1, 1) := by decide +kernel
theorem dX9_term_106 : decode cX9_term 106 = .ok (.goto 4, 3) := by decide +kernel
theorem dX9_term_109 : decode cX9_term 109 = .ok (.iconst 0, 1) := by decide +kernel
theorem dX9_term_110 : decode cX9_term 110 = .ok (.ireturn, 1) := by decide +kernel
theorem dX9_term_111 : decode cX9_term 111 = .ok (.aload_n 0, 1) := by decide +kernel
theorem dX9_term_112 : decode cX9_term 112 = .ok (.iload_n 1, 1) := by decide +kernel
theorem dX9_term_113 : decode cX9_term 113 = .ok (.invokevirtual 173, 3) := by decide +kernel
theorem dX9_term_116 : decode cX9_term 116 = .ok (.ireturn, 1) := by decide +kernel
theorem dX9_term_117 : decode cX9_term 117 = .ok (.aload_n 0, 1) := by decide +kernel
theorem dX9_term_118 : decode cX9_term 118 = .ok (.iload_n 1, 1) := by decide +kernel
theorem dX9_term_119 : decode cX9_term 119 = .ok (.invokevirtual 182, 3) := by decide +kernel
theorem dX9_term_122 : decode cX9_term 122 = .ok (.ireturn, 1) := by decide +kernel
theorem dX9_term_123 : decode cX9_term 123 = .ok (.aload_n 0, 1) := by decide +kernel
theorem dX9_term_124 : decode cX9_term 124 = .ok (.iload_n 1, 1) := by decide +kernel
theorem dX9_term_125 : decode cX9_term 125 = .ok (.invokevirtual 185, 3) := by decide +kernel
theorem dX9_term_128 : decode cX9_term 128 = .ok (.ireturn, 1) := by decide +kernel
theorem dX9_firstUse_0 : decode cX9_firstUse 0 = .ok (.aload_n 0, 1) := by decide +kernel
theorem dX9_firstUse_1 : decode cX9_firstUse 1 = .ok (.iload_n 1, 1) := by decide +kernel
theorem dX9_firstUse_2 : decode cX9_firstUse 2 = .ok (.invokevirtual 90, 3) := by decide +kernel
theorem dX9_firstUse_5 : decode cX9_firstUse 5 = .ok (.ifCond .eq 19, 3) := by decide +kernel
theorem dX9_firstUse_8 : decode cX9_firstUse 8 = .ok (.iload_n 2, 1) := by decide +kernel
theorem dX9_firstUse_9 : decode cX9_firstUse 9 = .ok (.invokestatic 53, 3) := by decide +kernel
theorem dX9_firstUse_12 : decode cX9_firstUse 12 = .ok (.ifCond .eq 12, 3) := by decide +kernel
theorem dX9_firstUse_15 : decode cX9_firstUse 15 = .ok (.aload_n 0, 1) := by decide +kernel
theorem dX9_firstUse_16 : decode cX9_firstUse 16 = .ok (.iload_n 1, 1) := by decide +kernel
theorem dX9_firstUse_17 : decode cX9_firstUse 17 = .ok (.iload_n 2, 1) := by decide +kernel
theorem dX9_firstUse_18 : decode cX9_firstUse 18 = .ok (.invokevirtual 179, 3) := by decide +kernel
theorem dX9_firstUse_21 : decode cX9_firstUse 21 = .ok (.goto 4, 3) := by decide +kernel
theorem dX9_firstUse_24 : decode cX9_firstUse 24 = .ok (.iconst (-1), 1) := by decide +kernel
theorem dX9_firstUse_25 : decode cX9_firstUse 25 = .ok (.ireturn, 1) := by decide +kernel
theorem dX9_mark_0 : decode cX9_mark 0 = .ok (.iload_n 1, 1) := by decide +kernel
theorem dX9_mark_1 : decode cX9_mark 1 = .ok (.ifCond .lt 12, 3) := by decide +kernel
theorem dX9_mark_4 : decode cX9_mark 4 = .ok (.iload_n 2, 1) := by decide +kernel
theorem dX9_mark_5 : decode cX9_mark 5 = .ok (.iconst 0, 1) := by decide +kernel
theorem dX9_mark_6 : decode cX9_mark 6 = .ok (.iconst 2, 1) := by decide +kernel
theorem dX9_mark_7 : decode cX9_mark 7 = .ok (.invokestatic 45, 3) := by decide +kernel
theorem dX9_mark_10 : decode cX9_mark 10 = .ok (.ifCond .ne 5, 3) := by decide +kernel
theorem dX9_mark_13 : decode cX9_mark 13 = .ok (.iconst (-1), 1) := by decide +kernel
theorem dX9_mark_14 : decode cX9_mark 14 = .ok (.ireturn, 1) := by decide +kernel
theorem dX9_mark_15 : decode cX9_mark 15 = .ok (.iload_n 1, 1) := by decide +kernel
theorem dX9_mark_16 : decode cX9_mark 16 = .ok (.istore_n 3, 1) := by decide +kernel
theorem dX9_mark_17 : decode cX9_mark 17 = .ok (.iconst 0, 1) := by decide +kernel
theorem dX9_mark_18 : decode cX9_mark 18 = .ok (.istore 4, 2) := by decide +kernel
theorem dX9_mark_20 : decode cX9_mark 20 = .ok (.iload 4, 2) := by decide +kernel
theorem dX9_mark_22 : decode cX9_mark 22 = .ok (.bipush 6, 2) := by decide +kernel
theorem dX9_mark_24 : decode cX9_mark 24 = .ok (.if_icmp .ge 117, 3) := by decide +kernel
theorem dX9_mark_27 : decode cX9_mark 27 = .ok (.aload_n 0, 1) := by decide +kernel
theorem dX9_mark_28 : decode cX9_mark 28 = .ok (.iload 4, 2) := by decide +kernel
theorem dX9_mark_30 : decode cX9_mark 30 = .ok (.invokevirtual 122, 3) := by decide +kernel
theorem dX9_mark_33 : decode cX9_mark 33 = .ok (.istore 5, 2) := by decide +kernel
theorem dX9_mark_35 : decode cX9_mark 35 = .ok (.iconst 0, 1) := by decide +kernel
theorem dX9_mark_36 : decode cX9_mark 36 = .ok (.istore 6, 2) := by decide +kernel
theorem dX9_mark_38 : decode cX9_mark 38 = .ok (.iload 6, 2) := by decide +kernel
theorem dX9_mark_40 : decode cX9_mark 40 = .ok (.aload_n 0, 1) := by decide +kernel
theorem dX9_mark_41 : decode cX9_mark 41 = .ok (.iload 4, 2) := by decide +kernel
theorem dX9_mark_43 : decode cX9_mark 43 = .ok (.invokevirtual 57, 3) := by decide +kernel
theorem dX9_mark_46 : decode cX9_mark 46 = .ok (.if_icmp .ge 74, 3) := by decide +kernel
theorem dX9_mark_49 : decode cX9_mark 49 = .ok (.iload_n 3, 1) := by decide +kernel
theorem dX9_mark_50 : decode cX9_mark 50 = .ok (.iload 5, 2) := by decide +kernel
theorem dX9_mark_52 : decode cX9_mark 52 = .ok (.if_icmp .ge 68, 3) := by decide +kernel
theorem dX9_mark_55 : decode cX9_mark 55 = .ok (.aload_n 0, 1) := by decide +kernel
theorem dX9_mark_56 : decode cX9_mark 56 = .ok (.getfield 34, 3) := by decide +kernel
theorem dX9_mark_59 : decode cX9_mark 59 = .ok (.iload 6, 2) := by decide +kernel
theorem dX9_mark_61 : decode cX9_mark 61 = .ok (.baload, 1) := by decide +kernel
theorem dX9_mark_62 : decode cX9_mark 62 = .ok (.ifCond .eq 34, 3) := by decide +kernel
theorem dX9_mark_65 : decode cX9_mark 65 = .ok (.iload_n 3, 1) := by decide +kernel
theorem dX9_mark_66 : decode cX9_mark 66 = .ok (.ifCond .ne 30, 3) := by decide +kernel
theorem dX9_mark_69 : decode cX9_mark 69 = .ok (.iload_n 2, 1) := by decide +kernel
theorem dX9_mark_70 : decode cX9_mark 70 = .ok (.ifCond .ne 8, 3) := by decide +kernel
theorem dX9_mark_73 : decode cX9_mark 73 = .ok (.iload 4, 2) := by decide +kernel
theorem dX9_mark_75 : decode cX9_mark 75 = .ok (.goto 20, 3) := by decide +kernel
theorem dX9_mark_78 : decode cX9_mark 78 = .ok (.iload_n 2, 1) := by decide +kernel
theorem dX9_mark_79 : decode cX9_mark 79 = .ok (.iconst 1, 1) := by decide +kernel
theorem dX9_mark_80 : decode cX9_mark 80 = .ok (.if_icmp .ne 8, 3) := by decide +kernel
theorem dX9_mark_83 : decode cX9_mark 83 = .ok (.iload 6, 2) := by decide +kernel
theorem dX9_mark_85 : decode cX9_mark 85 = .ok (.goto 10, 3) := by decide +kernel
theorem dX9_mark_88 : decode cX9_mark 88 = .ok (.aload_n 0, 1) := by decide +kernel
theorem dX9_mark_89 : decode cX9_mark 89 = .ok (.getfield 28, 3) := by decide +kernel
theorem dX9_mark_92 : decode cX9_mark 92 = .ok (.iload 6, 2) := by decide +kernel
theorem dX9_mark_94 : decode cX9_mark 94 = .ok (.iaload, 1) := by decide +kernel
theorem dX9_mark_95 : decode cX9_mark 95 = .ok (.ireturn, 1) := by decide +kernel
theorem dX9_mark_96 : decode cX9_mark 96 = .ok (.iload_n 3, 1) := by decide +kernel
theorem dX9_mark_97 : decode cX9_mark 97 = .ok (.aload_n 0, 1) := by decide +kernel
theorem dX9_mark_98 : decode cX9_mark 98 = .ok (.getfield 34, 3) := by decide +kernel
theorem dX9_mark_101 : decode cX9_mark 101 = .ok (.iload 6, 2) := by decide +kernel
theorem dX9_mark_103 : decode cX9_mark 103 = .ok (.baload, 1) := by decide +kernel
theorem dX9_mark_104 : decode cX9_mark 104 = .ok (.ifCond .eq 7, 3) := by decide +kernel
theorem dX9_mark_107 : decode cX9_mark 107 = .ok (.iconst 1, 1) := by decide +kernel
theorem dX9_mark_108 : decode cX9_mark 108 = .ok (.goto 4, 3) := by decide +kernel
theorem dX9_mark_111 : decode cX9_mark 111 = .ok (.iconst 0, 1) := by decide +kernel
theorem dX9_mark_112 : decode cX9_mark 112 = .ok (.isub, 1) := by decide +kernel
theorem dX9_mark_113 : decode cX9_mark 113 = .ok (.istore_n 3, 1) := by decide +kernel
theorem dX9_mark_114 : decode cX9_mark 114 = .ok (.iinc 6 1, 3) := by decide +kernel
theorem dX9_mark_117 : decode cX9_mark 117 = .ok (.goto (-79), 3) := by decide +kernel
theorem dX9_mark_120 : decode cX9_mark 120 = .ok (.iload_n 3, 1) := by decide +kernel
theorem dX9_mark_121 : decode cX9_mark 121 = .ok (.iload_n 3, 1) := by decide +kernel
theorem dX9_mark_122 : decode cX9_mark 122 = .ok (.iload 5, 2) := by decide +kernel
theorem dX9_mark_124 : decode cX9_mark 124 = .ok (.if_icmp .ge 7, 3) := by decide +kernel
theorem dX9_mark_127 : decode cX9_mark 127 = .ok (.iconst 0, 1) := by decide +kernel
theorem dX9_mark_128 : decode cX9_mark 128 = .ok (.goto 5, 3) := by decide +kernel
theorem dX9_mark_131 : decode cX9_mark 131 = .ok (.iload 5, 2) := by decide +kernel
theorem dX9_mark_133 : decode cX9_mark 133 = .ok (.isub, 1) := by decide +kernel
theorem dX9_mark_134 : decode cX9_mark 134 = .ok (.istore_n 3, 1) := by decide +kernel
theorem dX9_mark_135 : decode cX9_mark 135 = .ok (.iinc 4 1, 3) := by decide +kernel
theorem dX9_mark_138 : decode cX9_mark 138 = .ok (.goto (-118), 3) := by decide +kernel
theorem dX9_mark_141 : decode cX9_mark 141 = .ok (.bipush (-99), 2) := by decide +kernel
theorem dX9_mark_143 : decode cX9_mark 143 = .ok (.ireturn, 1) := by decide +kernel
theorem dX9_why_0 : decode cX9_why 0 = .ok (.iload_n 1, 1) := by decide +kernel
theorem dX9_why_1 : decode cX9_why 1 = .ok (.invokestatic 53, 3) := by decide +kernel
theorem dX9_why_4 : decode cX9_why 4 = .ok (.ifCond .eq 26, 3) := by decide +kernel
theorem dX9_why_7 : decode cX9_why 7 = .ok (.iload_n 2, 1) := by decide +kernel
theorem dX9_why_8 : decode cX9_why 8 = .ok (.iconst 0, 1) := by decide +kernel
theorem dX9_why_9 : decode cX9_why 9 = .ok (.aload_n 0, 1) := by decide +kernel
theorem dX9_why_10 : decode cX9_why 10 = .ok (.iload_n 1, 1) := by decide +kernel
theorem dX9_why_11 : decode cX9_why 11 = .ok (.invokevirtual 57, 3) := by decide +kernel
theorem dX9_why_14 : decode cX9_why 14 = .ok (.iconst 1, 1) := by decide +kernel
theorem dX9_why_15 : decode cX9_why 15 = .ok (.isub, 1) := by decide +kernel
theorem dX9_why_16 : decode cX9_why 16 = .ok (.invokestatic 45, 3) := by decide +kernel
theorem dX9_why_19 : decode cX9_why 19 = .ok (.ifCond .eq 11, 3) := by decide +kernel
theorem dX9_why_22 : decode cX9_why 22 = .ok (.aload_n 0, 1) := by decide +kernel
theorem dX9_why_23 : decode cX9_why 23 = .ok (.iload_n 3, 1) := by decide +kernel
theorem dX9_why_24 : decode cX9_why 24 = .ok (.invokevirtual 90, 3) := by decide +kernel
theorem dX9_why_27 : decode cX9_why 27 = .ok (.ifCond .ne 5, 3) := by decide +kernel
theorem dX9_why_30 : decode cX9_why 30 = .ok (.iconst (-1), 1) := by decide +kernel
theorem dX9_why_31 : decode cX9_why 31 = .ok (.ireturn, 1) := by decide +kernel
theorem dX9_why_32 : decode cX9_why 32 = .ok (.aload_n 0, 1) := by decide +kernel
theorem dX9_why_33 : decode cX9_why 33 = .ok (.iload_n 1, 1) := by decide +kernel
theorem dX9_why_34 : decode cX9_why 34 = .ok (.invokevirtual 122, 3) := by decide +kernel
theorem dX9_why_37 : decode cX9_why 37 = .ok (.istore 4, 2) := by decide +kernel
theorem dX9_why_39 : decode cX9_why 39 = .ok (.aload_n 0, 1) := by decide +kernel
theorem dX9_why_40 : decode cX9_why 40 = .ok (.iload_n 3, 1) := by decide +kernel
theorem dX9_why_41 : decode cX9_why 41 = .ok (.iload_n 1, 1) := by decide +kernel
theorem dX9_why_42 : decode cX9_why 42 = .ok (.iload_n 2, 1) := by decide +kernel
theorem dX9_why_43 : decode cX9_why 43 = .ok (.invokevirtual 108, 3) := by decide +kernel
theorem dX9_why_46 : decode cX9_why 46 = .ok (.ifCond .ne 5, 3) := by decide +kernel
theorem dX9_why_49 : decode cX9_why 49 = .ok (.iconst 1, 1) := by decide +kernel
theorem dX9_why_50 : decode cX9_why 50 = .ok (.ireturn, 1) := by decide +kernel
theorem dX9_why_51 : decode cX9_why 51 = .ok (.aload_n 0, 1) := by decide +kernel
theorem dX9_why_52 : decode cX9_why 52 = .ok (.getfield 31, 3) := by decide +kernel
theorem dX9_why_55 : decode cX9_why 55 = .ok (.iload_n 2, 1) := by decide +kernel
theorem dX9_why_56 : decode cX9_why 56 = .ok (.iaload, 1) := by decide +kernel
theorem dX9_why_57 : decode cX9_why 57 = .ok (.ifCond .ne 15, 3) := by decide +kernel
theorem dX9_why_60 : decode cX9_why 60 = .ok (.aload_n 0, 1) := by decide +kernel
theorem dX9_why_61 : decode cX9_why 61 = .ok (.getfield 28, 3) := by decide +kernel
theorem dX9_why_64 : decode cX9_why 64 = .ok (.iload_n 2, 1) := by decide +kernel
theorem dX9_why_65 : decode cX9_why 65 = .ok (.iaload, 1) := by decide +kernel
theorem dX9_why_66 : decode cX9_why 66 = .ok (.iload_n 3, 1) := by decide +kernel
theorem dX9_why_67 : decode cX9_why 67 = .ok (.if_icmp .eq 5, 3) := by decide +kernel
theorem dX9_why_70 : decode cX9_why 70 = .ok (.iconst 2, 1) := by decide +kernel
theorem dX9_why_71 : decode cX9_why 71 = .ok (.ireturn, 1) := by decide +kernel
theorem dX9_why_72 : decode cX9_why 72 = .ok (.aload_n 0, 1) := by decide +kernel
theorem dX9_why_73 : decode cX9_why 73 = .ok (.getfield 31, 3) := by decide +kernel
theorem dX9_why_76 : decode cX9_why 76 = .ok (.iload_n 2, 1) := by decide +kernel
theorem dX9_why_77 : decode cX9_why 77 = .ok (.iaload, 1) := by decide +kernel
theorem dX9_why_78 : decode cX9_why 78 = .ok (.ifCond .le 7, 3) := by decide +kernel
theorem dX9_why_81 : decode cX9_why 81 = .ok (.iconst 3, 1) := by decide +kernel
theorem dX9_why_82 : decode cX9_why 82 = .ok (.goto 34, 3) := by decide +kernel
theorem dX9_why_85 : decode cX9_why 85 = .ok (.aload_n 0, 1) := by decide +kernel
theorem dX9_why_86 : decode cX9_why 86 = .ok (.iload_n 3, 1) := by decide +kernel
theorem dX9_why_87 : decode cX9_why 87 = .ok (.invokevirtual 115, 3) := by decide +kernel
theorem dX9_why_90 : decode cX9_why 90 = .ok (.ifCond .eq 7, 3) := by decide +kernel
theorem dX9_why_93 : decode cX9_why 93 = .ok (.iconst 4, 1) := by decide +kernel
theorem dX9_why_94 : decode cX9_why 94 = .ok (.goto 22, 3) := by decide +kernel
theorem dX9_why_97 : decode cX9_why 97 = .ok (.aload_n 0, 1) := by decide +kernel
theorem dX9_why_98 : decode cX9_why 98 = .ok (.getfield 34, 3) := by decide +kernel
theorem dX9_why_101 : decode cX9_why 101 = .ok (.iload_n 2, 1) := by decide +kernel
theorem dX9_why_102 : decode cX9_why 102 = .ok (.baload, 1) := by decide +kernel
theorem dX9_why_103 : decode cX9_why 103 = .ok (.ifCond .eq 12, 3) := by decide +kernel
theorem dX9_why_106 : decode cX9_why 106 = .ok (.iload 4, 2) := by decide +kernel
theorem dX9_why_108 : decode cX9_why 108 = .ok (.ifCond .le 7, 3) := by decide +kernel
theorem dX9_why_111 : decode cX9_why 111 = .ok (.iconst 0, 1) := by decide +kernel
theorem dX9_why_112 : decode cX9_why 112 = .ok (.goto 4, 3) := by decide +kernel
theorem dX9_why_115 : decode cX9_why 115 = .ok (.iconst 5, 1) := by decide +kernel
theorem dX9_why_116 : decode cX9_why 116 = .ok (.ireturn, 1) := by decide +kernel
theorem dX9_nested_0 : decode cX9_nested 0 = .ok (.aload_n 0, 1) := by decide +kernel
theorem dX9_nested_1 : decode cX9_nested 1 = .ok (.iload_n 1, 1) := by decide +kernel
theorem dX9_nested_2 : decode cX9_nested 2 = .ok (.invokevirtual 90, 3) := by decide +kernel
theorem dX9_nested_5 : decode cX9_nested 5 = .ok (.ifCond .eq 11, 3) := by decide +kernel
theorem dX9_nested_8 : decode cX9_nested 8 = .ok (.aload_n 0, 1) := by decide +kernel
theorem dX9_nested_9 : decode cX9_nested 9 = .ok (.iload_n 2, 1) := by decide +kernel
theorem dX9_nested_10 : decode cX9_nested 10 = .ok (.invokevirtual 90, 3) := by decide +kernel
theorem dX9_nested_13 : decode cX9_nested 13 = .ok (.ifCond .ne 5, 3) := by decide +kernel
theorem dX9_nested_16 : decode cX9_nested 16 = .ok (.iconst (-1), 1) := by decide +kernel
theorem dX9_nested_17 : decode cX9_nested 17 = .ok (.ireturn, 1) := by decide +kernel
theorem dX9_nested_18 : decode cX9_nested 18 = .ok (.iconst 0, 1) := by decide +kernel
theorem dX9_nested_19 : decode cX9_nested 19 = .ok (.istore_n 3, 1) := by decide +kernel
theorem dX9_nested_20 : decode cX9_nested 20 = .ok (.iconst 0, 1) := by decide +kernel
theorem dX9_nested_21 : decode cX9_nested 21 = .ok (.istore 4, 2) := by decide +kernel
theorem dX9_nested_23 : decode cX9_nested 23 = .ok (.iload 4, 2) := by decide +kernel
theorem dX9_nested_25 : decode cX9_nested 25 = .ok (.aload_n 0, 1) := by decide +kernel
theorem dX9_nested_26 : decode cX9_nested 26 = .ok (.iload_n 1, 1) := by decide +kernel
theorem dX9_nested_27 : decode cX9_nested 27 = .ok (.iconst 0, 1) := by decide +kernel
theorem dX9_nested_28 : decode cX9_nested 28 = .ok (.invokevirtual 71, 3) := by decide +kernel
theorem dX9_nested_31 : decode cX9_nested 31 = .ok (.iadd, 1) := by decide +kernel
theorem dX9_nested_32 : decode cX9_nested 32 = .ok (.aload_n 0, 1) := by decide +kernel
theorem dX9_nested_33 : decode cX9_nested 33 = .ok (.iload_n 2, 1) := by decide +kernel
theorem dX9_nested_34 : decode cX9_nested 34 = .ok (.iconst 0, 1) := by decide +kernel
theorem dX9_nested_35 : decode cX9_nested 35 = .ok (.invokevirtual 71, 3) := by decide +kernel
theorem dX9_nested_38 : decode cX9_nested 38 = .ok (.if_icmp .gt 91, 3) := by decide +kernel
theorem dX9_nested_41 : decode cX9_nested 41 = .ok (.iconst 1, 1) := by decide +kernel
theorem dX9_nested_42 : decode cX9_nested 42 = .ok (.istore 5, 2) := by decide +kernel
theorem dX9_nested_44 : decode cX9_nested 44 = .ok (.iconst 1, 1) := by decide +kernel
theorem dX9_nested_45 : decode cX9_nested 45 = .ok (.istore 6, 2) := by decide +kernel
theorem dX9_nested_47 : decode cX9_nested 47 = .ok (.iload 6, 2) := by decide +kernel
theorem dX9_nested_49 : decode cX9_nested 49 = .ok (.aload_n 0, 1) := by decide +kernel
theorem dX9_nested_50 : decode cX9_nested 50 = .ok (.iload_n 1, 1) := by decide +kernel
theorem dX9_nested_51 : decode cX9_nested 51 = .ok (.iconst 0, 1) := by decide +kernel
theorem dX9_nested_52 : decode cX9_nested 52 = .ok (.invokevirtual 71, 3) := by decide +kernel
theorem dX9_nested_55 : decode cX9_nested 55 = .ok (.if_icmp .gt 55, 3) := by decide +kernel
theorem dX9_nested_58 : decode cX9_nested 58 = .ok (.iload 5, 2) := by decide +kernel
theorem dX9_nested_60 : decode cX9_nested 60 = .ok (.ifCond .eq 50, 3) := by decide +kernel
theorem dX9_nested_63 : decode cX9_nested 63 = .ok (.aload_n 0, 1) := by decide +kernel
theorem dX9_nested_64 : decode cX9_nested 64 = .ok (.getfield 7, 3) := by decide +kernel
theorem dX9_nested_67 : decode cX9_nested 67 = .ok (.iconst 1, 1) := by decide +kernel
theorem dX9_nested_68 : decode cX9_nested 68 = .ok (.aload_n 0, 1) := by decide +kernel
theorem dX9_nested_69 : decode cX9_nested 69 = .ok (.iload_n 1, 1) := by decide +kernel
theorem dX9_nested_70 : decode cX9_nested 70 = .ok (.iload 6, 2) := by decide +kernel
theorem dX9_nested_72 : decode cX9_nested 72 = .ok (.invokevirtual 71, 3) := by decide +kernel
theorem dX9_nested_75 : decode cX9_nested 75 = .ok (.iadd, 1) := by decide +kernel
theorem dX9_nested_76 : decode cX9_nested 76 = .ok (.iaload, 1) := by decide +kernel
theorem dX9_nested_77 : decode cX9_nested 77 = .ok (.aload_n 0, 1) := by decide +kernel
theorem dX9_nested_78 : decode cX9_nested 78 = .ok (.getfield 7, 3) := by decide +kernel
theorem dX9_nested_81 : decode cX9_nested 81 = .ok (.iconst 1, 1) := by decide +kernel
theorem dX9_nested_82 : decode cX9_nested 82 = .ok (.aload_n 0, 1) := by decide +kernel
theorem dX9_nested_83 : decode cX9_nested 83 = .ok (.iload_n 2, 1) := by decide +kernel
theorem dX9_nested_84 : decode cX9_nested 84 = .ok (.iload 4, 2) := by decide +kernel
theorem dX9_nested_86 : decode cX9_nested 86 = .ok (.iload 6, 2) := by decide +kernel
theorem dX9_nested_88 : decode cX9_nested 88 = .ok (.iadd, 1) := by decide +kernel
theorem dX9_nested_89 : decode cX9_nested 89 = .ok (.invokevirtual 71, 3) := by decide +kernel
theorem dX9_nested_92 : decode cX9_nested 92 = .ok (.iadd, 1) := by decide +kernel
theorem dX9_nested_93 : decode cX9_nested 93 = .ok (.iaload, 1) := by decide +kernel
theorem dX9_nested_94 : decode cX9_nested 94 = .ok (.if_icmp .ne 7, 3) := by decide +kernel
theorem dX9_nested_97 : decode cX9_nested 97 = .ok (.iconst 1, 1) := by decide +kernel
theorem dX9_nested_98 : decode cX9_nested 98 = .ok (.goto 4, 3) := by decide +kernel
theorem dX9_nested_101 : decode cX9_nested 101 = .ok (.iconst 0, 1) := by decide +kernel
theorem dX9_nested_102 : decode cX9_nested 102 = .ok (.istore 5, 2) := by decide +kernel
theorem dX9_nested_104 : decode cX9_nested 104 = .ok (.iinc 6 1, 3) := by decide +kernel
theorem dX9_nested_107 : decode cX9_nested 107 = .ok (.goto (-60), 3) := by decide +kernel
theorem dX9_nested_110 : decode cX9_nested 110 = .ok (.iload_n 3, 1) := by decide +kernel
theorem dX9_nested_111 : decode cX9_nested 111 = .ok (.iload 5, 2) := by decide +kernel
theorem dX9_nested_113 : decode cX9_nested 113 = .ok (.ifCond .eq 7, 3) := by decide +kernel
theorem dX9_nested_116 : decode cX9_nested 116 = .ok (.iconst 1, 1) := by decide +kernel
theorem dX9_nested_117 : decode cX9_nested 117 = .ok (.goto 4, 3) := by decide +kernel
theorem dX9_nested_120 : decode cX9_nested 120 = .ok (.iconst 0, 1) := by decide +kernel
theorem dX9_nested_121 : decode cX9_nested 121 = .ok (.iadd, 1) := by decide +kernel
theorem dX9_nested_122 : decode cX9_nested 122 = .ok (.istore_n 3, 1) := by decide +kernel
theorem dX9_nested_123 : decode cX9_nested 123 = .ok (.iinc 4 1, 3) := by decide +kernel
theorem dX9_nested_126 : decode cX9_nested 126 = .ok (.goto (-103), 3) := by decide +kernel
theorem dX9_nested_129 : decode cX9_nested 129 = .ok (.iload_n 3, 1) := by decide +kernel
theorem dX9_nested_130 : decode cX9_nested 130 = .ok (.ireturn, 1) := by decide +kernel
theorem dX9_gain_0 : decode cX9_gain 0 = .ok (.aload_n 0, 1) := by decide +kernel
theorem dX9_gain_1 : decode cX9_gain 1 = .ok (.iload_n 1, 1) := by decide +kernel
theorem dX9_gain_2 : decode cX9_gain 2 = .ok (.iload_n 2, 1) := by decide +kernel
theorem dX9_gain_3 : decode cX9_gain 3 = .ok (.iload_n 3, 1) := by decide +kernel
theorem dX9_gain_4 : decode cX9_gain 4 = .ok (.iload 4, 2) := by decide +kernel
theorem dX9_gain_6 : decode cX9_gain 6 = .ok (.invokevirtual 78, 3) := by decide +kernel
theorem dX9_gain_9 : decode cX9_gain 9 = .ok (.ifCond .ne 5, 3) := by decide +kernel
theorem dX9_gain_12 : decode cX9_gain 12 = .ok (.iconst (-1), 1) := by decide +kernel
theorem dX9_gain_13 : decode cX9_gain 13 = .ok (.ireturn, 1) := by decide +kernel
theorem dX9_gain_14 : decode cX9_gain 14 = .ok (.aload_n 0, 1) := by decide +kernel
theorem dX9_gain_15 : decode cX9_gain 15 = .ok (.invokevirtual 82, 3) := by decide +kernel
theorem dX9_gain_18 : decode cX9_gain 18 = .ok (.ifCond .eq 6, 3) := by decide +kernel
theorem dX9_gain_21 : decode cX9_gain 21 = .ok (.bipush (-2), 2) := by decide +kernel
theorem dX9_gain_23 : decode cX9_gain 23 = .ok (.ireturn, 1) := by decide +kernel
theorem dX9_gain_24 : decode cX9_gain 24 = .ok (.iconst 0, 1) := by decide +kernel
theorem dX9_gain_25 : decode cX9_gain 25 = .ok (.istore 5, 2) := by decide +kernel
theorem dX9_gain_27 : decode cX9_gain 27 = .ok (.iconst 0, 1) := by decide +kernel
theorem dX9_gain_28 : decode cX9_gain 28 = .ok (.istore 6, 2) := by decide +kernel
theorem dX9_gain_30 : decode cX9_gain 30 = .ok (.iload 6, 2) := by decide +kernel
theorem dX9_gain_32 : decode cX9_gain 32 = .ok (.bipush 6, 2) := by decide +kernel
theorem dX9_gain_34 : decode cX9_gain 34 = .ok (.if_icmp .ge 29, 3) := by decide +kernel
theorem dX9_gain_37 : decode cX9_gain 37 = .ok (.iload 5, 2) := by decide +kernel
theorem dX9_gain_39 : decode cX9_gain 39 = .ok (.aload_n 0, 1) := by decide +kernel
theorem dX9_gain_40 : decode cX9_gain 40 = .ok (.iload 6, 2) := by decide +kernel
theorem dX9_gain_42 : decode cX9_gain 42 = .ok (.iconst (-1), 1) := by decide +kernel
theorem dX9_gain_43 : decode cX9_gain 43 = .ok (.iconst 1, 1) := by decide +kernel
theorem dX9_gain_44 : decode cX9_gain 44 = .ok (.invokevirtual 118, 3) := by decide +kernel
theorem dX9_gain_47 : decode cX9_gain 47 = .ok (.aload_n 0, 1) := by decide +kernel
theorem dX9_gain_48 : decode cX9_gain 48 = .ok (.iload 6, 2) := by decide +kernel
theorem dX9_gain_50 : decode cX9_gain 50 = .ok (.invokevirtual 122, 3) := by decide +kernel
theorem dX9_gain_53 : decode cX9_gain 53 = .ok (.isub, 1) := by decide +kernel
theorem dX9_gain_54 : decode cX9_gain 54 = .ok (.iadd, 1) := by decide +kernel
theorem dX9_gain_55 : decode cX9_gain 55 = .ok (.istore 5, 2) := by decide +kernel
theorem dX9_gain_57 : decode cX9_gain 57 = .ok (.iinc 6 1, 3) := by decide +kernel
theorem dX9_gain_60 : decode cX9_gain 60 = .ok (.goto (-30), 3) := by decide +kernel
theorem dX9_gain_63 : decode cX9_gain 63 = .ok (.bipush 100, 2) := by decide +kernel
theorem dX9_gain_65 : decode cX9_gain 65 = .ok (.iload 5, 2) := by decide +kernel
theorem dX9_gain_67 : decode cX9_gain 67 = .ok (.iadd, 1) := by decide +kernel
theorem dX9_gain_68 : decode cX9_gain 68 = .ok (.ireturn, 1) := by decide +kernel
theorem dX9_greediest_0 : decode cX9_greediest 0 = .ok (.bipush (-99), 2) := by decide +kernel
theorem dX9_greediest_2 : decode cX9_greediest 2 = .ok (.istore_n 1, 1) := by decide +kernel
theorem dX9_greediest_3 : decode cX9_greediest 3 = .ok (.iconst 0, 1) := by decide +kernel
theorem dX9_greediest_4 : decode cX9_greediest 4 = .ok (.istore_n 2, 1) := by decide +kernel
theorem dX9_greediest_5 : decode cX9_greediest 5 = .ok (.iconst 0, 1) := by decide +kernel
theorem dX9_greediest_6 : decode cX9_greediest 6 = .ok (.istore_n 3, 1) := by decide +kernel
theorem dX9_greediest_7 : decode cX9_greediest 7 = .ok (.iload_n 3, 1) := by decide +kernel
theorem dX9_greediest_8 : decode cX9_greediest 8 = .ok (.aload_n 0, 1) := by decide +kernel
theorem dX9_greediest_9 : decode cX9_greediest 9 = .ok (.getfield 7, 3) := by decide +kernel
theorem dX9_greediest_12 : decode cX9_greediest 12 = .ok (.sipush 307, 3) := by decide +kernel
theorem dX9_greediest_15 : decode cX9_greediest 15 = .ok (.iaload, 1) := by decide +kernel
theorem dX9_greediest_16 : decode cX9_greediest 16 = .ok (.if_icmp .ge 33, 3) := by decide +kernel
theorem dX9_greediest_19 : decode cX9_greediest 19 = .ok (.aload_n 0, 1) := by decide +kernel
theorem dX9_greediest_20 : decode cX9_greediest 20 = .ok (.iload_n 3, 1) := by decide +kernel
theorem dX9_greediest_21 : decode cX9_greediest 21 = .ok (.invokevirtual 68, 3) := by decide +kernel
theorem dX9_greediest_24 : decode cX9_greediest 24 = .ok (.istore 4, 2) := by decide +kernel
theorem dX9_greediest_26 : decode cX9_greediest 26 = .ok (.iload_n 1, 1) := by decide +kernel
theorem dX9_greediest_27 : decode cX9_greediest 27 = .ok (.bipush (-99), 2) := by decide +kernel
theorem dX9_greediest_29 : decode cX9_greediest 29 = .ok (.if_icmp .eq 9, 3) := by decide +kernel
theorem dX9_greediest_32 : decode cX9_greediest 32 = .ok (.iload 4, 2) := by decide +kernel
theorem dX9_greediest_34 : decode cX9_greediest 34 = .ok (.iload_n 2, 1) := by decide +kernel
theorem dX9_greediest_35 : decode cX9_greediest 35 = .ok (.if_icmp .le 8, 3) := by decide +kernel
theorem dX9_greediest_38 : decode cX9_greediest 38 = .ok (.iload_n 3, 1) := by decide +kernel
theorem dX9_greediest_39 : decode cX9_greediest 39 = .ok (.istore_n 1, 1) := by decide +kernel
theorem dX9_greediest_40 : decode cX9_greediest 40 = .ok (.iload 4, 2) := by decide +kernel
theorem dX9_greediest_42 : decode cX9_greediest 42 = .ok (.istore_n 2, 1) := by decide +kernel
theorem dX9_greediest_43 : decode cX9_greediest 43 = .ok (.iinc 3 1, 3) := by decide +kernel
theorem dX9_greediest_46 : decode cX9_greediest 46 = .ok (.goto (-39), 3) := by decide +kernel
theorem dX9_greediest_49 : decode cX9_greediest 49 = .ok (.iload_n 1, 1) := by decide +kernel
theorem dX9_greediest_50 : decode cX9_greediest 50 = .ok (.ireturn, 1) := by decide +kernel
theorem dJ0_length_8abf5_0 : decode cJ0_length_8abf5 0 = .ok (.aload_n 0, 1) := by decide +kernel
theorem dJ0_length_8abf5_1 : decode cJ0_length_8abf5 1 = .ok (.getfield 9, 3) := by decide +kernel
theorem dJ0_length_8abf5_4 : decode cJ0_length_8abf5 4 = .ok (.arraylength, 1) := by decide +kernel
theorem dJ0_length_8abf5_5 : decode cJ0_length_8abf5 5 = .ok (.aload_n 0, 1) := by decide +kernel
theorem dJ0_length_8abf5_6 : decode cJ0_length_8abf5 6 = .ok (.invokevirtual 335, 3) := by decide +kernel
theorem dJ0_length_8abf5_9 : decode cJ0_length_8abf5 9 = .ok (.ishr, 1) := by decide +kernel
theorem dJ0_length_8abf5_10 : decode cJ0_length_8abf5 10 = .ok (.ireturn, 1) := by decide +kernel
theorem dJ0_charAt_5068e_0 : decode cJ0_charAt_5068e 0 = .ok (.aload_n 0, 1) := by decide +kernel
theorem dJ0_charAt_5068e_1 : decode cJ0_charAt_5068e 1 = .ok (.invokevirtual 492, 3) := by decide +kernel
theorem dJ0_charAt_5068e_4 : decode cJ0_charAt_5068e 4 = .ok (.ifCond .eq 12, 3) := by decide +kernel
theorem dJ0_charAt_5068e_7 : decode cJ0_charAt_5068e 7 = .ok (.aload_n 0, 1) := by decide +kernel
theorem dJ0_charAt_5068e_8 : decode cJ0_charAt_5068e 8 = .ok (.getfield 9, 3) := by decide +kernel
theorem dJ0_charAt_5068e_11 : decode cJ0_charAt_5068e 11 = .ok (.iload_n 1, 1) := by decide +kernel
theorem dJ0_charAt_5068e_12 : decode cJ0_charAt_5068e 12 = .ok (.invokestatic 495, 3) := by decide +kernel
theorem dJ0_charAt_5068e_15 : decode cJ0_charAt_5068e 15 = .ok (.ireturn, 1) := by decide +kernel
theorem dJ0_charAt_5068e_16 : decode cJ0_charAt_5068e 16 = .ok (.aload_n 0, 1) := by decide +kernel
theorem dJ0_charAt_5068e_17 : decode cJ0_charAt_5068e 17 = .ok (.getfield 9, 3) := by decide +kernel
theorem dJ0_charAt_5068e_20 : decode cJ0_charAt_5068e 20 = .ok (.iload_n 1, 1) := by decide +kernel
theorem dJ0_charAt_5068e_21 : decode cJ0_charAt_5068e 21 = .ok (.invokestatic 498, 3) := by decide +kernel
theorem dJ0_charAt_5068e_24 : decode cJ0_charAt_5068e 24 = .ok (.ireturn, 1) := by decide +kernel
theorem dJ0_coder_7d493_0 : decode cJ0_coder_7d493 0 = .ok (.getstatic 38, 3) := by decide +kernel
theorem dJ0_coder_7d493_3 : decode cJ0_coder_7d493 3 = .ok (.ifCond .eq 10, 3) := by decide +kernel
theorem dJ0_coder_7d493_6 : decode cJ0_coder_7d493 6 = .ok (.aload_n 0, 1) := by decide +kernel
theorem dJ0_coder_7d493_7 : decode cJ0_coder_7d493 7 = .ok (.getfield 15, 3) := by decide +kernel
theorem dJ0_coder_7d493_10 : decode cJ0_coder_7d493 10 = .ok (.goto 4, 3) := by decide +kernel
theorem dJ0_coder_7d493_13 : decode cJ0_coder_7d493 13 = .ok (.iconst 1, 1) := by decide +kernel
theorem dJ0_coder_7d493_14 : decode cJ0_coder_7d493 14 = .ok (.ireturn, 1) := by decide +kernel
theorem dJ0_isLatin1_aae02_0 : decode cJ0_isLatin1_aae02 0 = .ok (.getstatic 38, 3) := by decide +kernel
theorem dJ0_isLatin1_aae02_3 : decode cJ0_isLatin1_aae02 3 = .ok (.ifCond .eq 14, 3) := by decide +kernel
theorem dJ0_isLatin1_aae02_6 : decode cJ0_isLatin1_aae02 6 = .ok (.aload_n 0, 1) := by decide +kernel
theorem dJ0_isLatin1_aae02_7 : decode cJ0_isLatin1_aae02 7 = .ok (.getfield 15, 3) := by decide +kernel
theorem dJ0_isLatin1_aae02_10 : decode cJ0_isLatin1_aae02 10 = .ok (.ifCond .ne 7, 3) := by decide +kernel
theorem dJ0_isLatin1_aae02_13 : decode cJ0_isLatin1_aae02 13 = .ok (.iconst 1, 1) := by decide +kernel
theorem dJ0_isLatin1_aae02_14 : decode cJ0_isLatin1_aae02 14 = .ok (.goto 4, 3) := by decide +kernel
theorem dJ0_isLatin1_aae02_17 : decode cJ0_isLatin1_aae02 17 = .ok (.iconst 0, 1) := by decide +kernel
theorem dJ0_isLatin1_aae02_18 : decode cJ0_isLatin1_aae02 18 = .ok (.ireturn, 1) := by decide +kernel
theorem dJ0_checkIndex_df160_0 : decode cJ0_checkIndex_df160 0 = .ok (.iload_n 0, 1) := by decide +kernel
theorem dJ0_checkIndex_df160_1 : decode cJ0_checkIndex_df160 1 = .ok (.iload_n 1, 1) := by decide +kernel
theorem dJ0_checkIndex_df160_2 : decode cJ0_checkIndex_df160 2 = .ok (.getstatic 1053, 3) := by decide +kernel
theorem dJ0_checkIndex_df160_5 : decode cJ0_checkIndex_df160 5 = .ok (.invokestatic 1059, 3) := by decide +kernel
theorem dJ0_checkIndex_df160_8 : decode cJ0_checkIndex_df160 8 = .ok (.pop, 1) := by decide +kernel
theorem dJ0_checkIndex_df160_9 : decode cJ0_checkIndex_df160 9 = .ok (.return_, 1) := by decide +kernel
theorem dJ1_charAt_3b067_0 : decode cJ1_charAt_3b067 0 = .ok (.iload_n 1, 1) := by decide +kernel
theorem dJ1_charAt_3b067_1 : decode cJ1_charAt_3b067 1 = .ok (.aload_n 0, 1) := by decide +kernel
theorem dJ1_charAt_3b067_2 : decode cJ1_charAt_3b067 2 = .ok (.arraylength, 1) := by decide +kernel
theorem dJ1_charAt_3b067_3 : decode cJ1_charAt_3b067 3 = .ok (.invokestatic 9, 3) := by decide +kernel
theorem dJ1_charAt_3b067_6 : decode cJ1_charAt_3b067 6 = .ok (.aload_n 0, 1) := by decide +kernel
theorem dJ1_charAt_3b067_7 : decode cJ1_charAt_3b067 7 = .ok (.iload_n 1, 1) := by decide +kernel
theorem dJ1_charAt_3b067_8 : decode cJ1_charAt_3b067 8 = .ok (.baload, 1) := by decide +kernel
theorem dJ1_charAt_3b067_9 : decode cJ1_charAt_3b067 9 = .ok (.sipush 255, 3) := by decide +kernel
theorem dJ1_charAt_3b067_12 : decode cJ1_charAt_3b067 12 = .ok (.iand, 1) := by decide +kernel
theorem dJ1_charAt_3b067_13 : decode cJ1_charAt_3b067 13 = .ok (.i2c, 1) := by decide +kernel
theorem dJ1_charAt_3b067_14 : decode cJ1_charAt_3b067 14 = .ok (.ireturn, 1) := by decide +kernel
theorem dJ2_getChar_3b067_0 : decode cJ2_getChar_3b067 0 = .ok (.getstatic 44, 3) := by decide +kernel
theorem dJ2_getChar_3b067_3 : decode cJ2_getChar_3b067 3 = .ok (.ifCond .ne 25, 3) := by decide +kernel
theorem dJ2_getChar_3b067_6 : decode cJ2_getChar_3b067 6 = .ok (.iload_n 1, 1) := by decide +kernel
theorem dJ2_getChar_3b067_7 : decode cJ2_getChar_3b067 7 = .ok (.ifCond .lt 11, 3) := by decide +kernel
theorem dJ2_getChar_3b067_10 : decode cJ2_getChar_3b067 10 = .ok (.iload_n 1, 1) := by decide +kernel
theorem dJ2_getChar_3b067_11 : decode cJ2_getChar_3b067 11 = .ok (.aload_n 0, 1) := by decide +kernel
theorem dJ2_getChar_3b067_12 : decode cJ2_getChar_3b067 12 = .ok (.invokestatic 48, 3) := by decide +kernel
theorem dJ2_getChar_3b067_15 : decode cJ2_getChar_3b067 15 = .ok (.if_icmp .lt 13, 3) := by decide +kernel
theorem dJ2_getChar_3b067_18 : decode cJ2_getChar_3b067 18 = .ok (.new 52, 3) := by decide +kernel
theorem dJ2_getChar_3b067_21 : decode cJ2_getChar_3b067 21 = .ok (.dup, 1) := by decide +kernel
theorem dJ2_getChar_3b067_22 : decode cJ2_getChar_3b067 22 = .ok (.ldc 54, 2) := by decide +kernel
theorem dJ2_getChar_3b067_24 : decode cJ2_getChar_3b067 24 = .ok (.invokespecial 56, 3) := by decide +kernel
theorem dJ2_getChar_3b067_27 : decode cJ2_getChar_3b067 27 = .ok (.athrow, 1) := by decide +kernel
theorem dJ2_getChar_3b067_28 : decode cJ2_getChar_3b067 28 = .ok (.iload_n 1, 1) := by decide +kernel
theorem dJ2_getChar_3b067_29 : decode cJ2_getChar_3b067 29 = .ok (.iconst 1, 1) := by decide +kernel
theorem dJ2_getChar_3b067_30 : decode cJ2_getChar_3b067 30 = .ok (.ishl, 1) := by decide +kernel
theorem dJ2_getChar_3b067_31 : decode cJ2_getChar_3b067 31 = .ok (.istore_n 1, 1) := by decide +kernel
theorem dJ2_getChar_3b067_32 : decode cJ2_getChar_3b067 32 = .ok (.aload_n 0, 1) := by decide +kernel
theorem dJ2_getChar_3b067_33 : decode cJ2_getChar_3b067 33 = .ok (.iload_n 1, 1) := by decide +kernel
theorem dJ2_getChar_3b067_34 : decode cJ2_getChar_3b067 34 = .ok (.iinc 1 1, 3) := by decide +kernel
theorem dJ2_getChar_3b067_37 : decode cJ2_getChar_3b067 37 = .ok (.baload, 1) := by decide +kernel
theorem dJ2_getChar_3b067_38 : decode cJ2_getChar_3b067 38 = .ok (.sipush 255, 3) := by decide +kernel
theorem dJ2_getChar_3b067_41 : decode cJ2_getChar_3b067 41 = .ok (.iand, 1) := by decide +kernel
theorem dJ2_getChar_3b067_42 : decode cJ2_getChar_3b067 42 = .ok (.getstatic 59, 3) := by decide +kernel
theorem dJ2_getChar_3b067_45 : decode cJ2_getChar_3b067 45 = .ok (.ishl, 1) := by decide +kernel
theorem dJ2_getChar_3b067_46 : decode cJ2_getChar_3b067 46 = .ok (.aload_n 0, 1) := by decide +kernel
theorem dJ2_getChar_3b067_47 : decode cJ2_getChar_3b067 47 = .ok (.iload_n 1, 1) := by decide +kernel
theorem dJ2_getChar_3b067_48 : decode cJ2_getChar_3b067 48 = .ok (.baload, 1) := by decide +kernel
theorem dJ2_getChar_3b067_49 : decode cJ2_getChar_3b067 49 = .ok (.sipush 255, 3) := by decide +kernel
theorem dJ2_getChar_3b067_52 : decode cJ2_getChar_3b067 52 = .ok (.iand, 1) := by decide +kernel
theorem dJ2_getChar_3b067_53 : decode cJ2_getChar_3b067 53 = .ok (.getstatic 63, 3) := by decide +kernel
theorem dJ2_getChar_3b067_56 : decode cJ2_getChar_3b067 56 = .ok (.ishl, 1) := by decide +kernel
theorem dJ2_getChar_3b067_57 : decode cJ2_getChar_3b067 57 = .ok (.ior, 1) := by decide +kernel
theorem dJ2_getChar_3b067_58 : decode cJ2_getChar_3b067 58 = .ok (.i2c, 1) := by decide +kernel
theorem dJ2_getChar_3b067_59 : decode cJ2_getChar_3b067 59 = .ok (.ireturn, 1) := by decide +kernel
theorem dJ2_length_9d52b_0 : decode cJ2_length_9d52b 0 = .ok (.aload_n 0, 1) := by decide +kernel
theorem dJ2_length_9d52b_1 : decode cJ2_length_9d52b 1 = .ok (.arraylength, 1) := by decide +kernel
theorem dJ2_length_9d52b_2 : decode cJ2_length_9d52b 2 = .ok (.iconst 1, 1) := by decide +kernel
theorem dJ2_length_9d52b_3 : decode cJ2_length_9d52b 3 = .ok (.ishr, 1) := by decide +kernel
theorem dJ2_length_9d52b_4 : decode cJ2_length_9d52b 4 = .ok (.ireturn, 1) := by decide +kernel
theorem dJ2_charAt_3b067_0 : decode cJ2_charAt_3b067 0 = .ok (.iload_n 1, 1) := by decide +kernel
theorem dJ2_charAt_3b067_1 : decode cJ2_charAt_3b067 1 = .ok (.aload_n 0, 1) := by decide +kernel
theorem dJ2_charAt_3b067_2 : decode cJ2_charAt_3b067 2 = .ok (.invokestatic 67, 3) := by decide +kernel
theorem dJ2_charAt_3b067_5 : decode cJ2_charAt_3b067 5 = .ok (.aload_n 0, 1) := by decide +kernel
theorem dJ2_charAt_3b067_6 : decode cJ2_charAt_3b067 6 = .ok (.iload_n 1, 1) := by decide +kernel
theorem dJ2_charAt_3b067_7 : decode cJ2_charAt_3b067 7 = .ok (.invokestatic 71, 3) := by decide +kernel
theorem dJ2_charAt_3b067_10 : decode cJ2_charAt_3b067 10 = .ok (.ireturn, 1) := by decide +kernel
theorem dJ2_checkIndex_2214a_0 : decode cJ2_checkIndex_2214a 0 = .ok (.iload_n 0, 1) := by decide +kernel
theorem dJ2_checkIndex_2214a_1 : decode cJ2_checkIndex_2214a 1 = .ok (.aload_n 1, 1) := by decide +kernel
theorem dJ2_checkIndex_2214a_2 : decode cJ2_checkIndex_2214a 2 = .ok (.invokestatic 48, 3) := by decide +kernel
theorem dJ2_checkIndex_2214a_5 : decode cJ2_checkIndex_2214a 5 = .ok (.invokestatic 414, 3) := by decide +kernel
theorem dJ2_checkIndex_2214a_8 : decode cJ2_checkIndex_2214a 8 = .ok (.return_, 1) := by decide +kernel
theorem dJ3_checkIndex_8e157_0 : decode cJ3_checkIndex_8e157 0 = .ok (.iload_n 0, 1) := by decide +kernel
theorem dJ3_checkIndex_8e157_1 : decode cJ3_checkIndex_8e157 1 = .ok (.ifCond .lt 8, 3) := by decide +kernel
theorem dJ3_checkIndex_8e157_4 : decode cJ3_checkIndex_8e157 4 = .ok (.iload_n 0, 1) := by decide +kernel
theorem dJ3_checkIndex_8e157_5 : decode cJ3_checkIndex_8e157 5 = .ok (.iload_n 1, 1) := by decide +kernel
theorem dJ3_checkIndex_8e157_6 : decode cJ3_checkIndex_8e157 6 = .ok (.if_icmp .lt 10, 3) := by decide +kernel
theorem dJ3_checkIndex_8e157_9 : decode cJ3_checkIndex_8e157 9 = .ok (.aload_n 2, 1) := by decide +kernel
theorem dJ3_checkIndex_8e157_10 : decode cJ3_checkIndex_8e157 10 = .ok (.iload_n 0, 1) := by decide +kernel
theorem dJ3_checkIndex_8e157_11 : decode cJ3_checkIndex_8e157 11 = .ok (.iload_n 1, 1) := by decide +kernel
theorem dJ3_checkIndex_8e157_12 : decode cJ3_checkIndex_8e157 12 = .ok (.invokestatic 95, 3) := by decide +kernel
theorem dJ3_checkIndex_8e157_15 : decode cJ3_checkIndex_8e157 15 = .ok (.athrow, 1) := by decide +kernel
theorem dJ3_checkIndex_8e157_16 : decode cJ3_checkIndex_8e157 16 = .ok (.iload_n 0, 1) := by decide +kernel
theorem dJ3_checkIndex_8e157_17 : decode cJ3_checkIndex_8e157 17 = .ok (.ireturn, 1) := by decide +kernel
theorem dL_law_0 : decode cL_law 0 = .ok (.new 7, 3) := by decide +kernel
theorem dL_law_3 : decode cL_law 3 = .ok (.dup, 1) := by decide +kernel
theorem dL_law_4 : decode cL_law 4 = .ok (.invokespecial 9, 3) := by decide +kernel
theorem dL_law_7 : decode cL_law 7 = .ok (.astore_n 1, 1) := by decide +kernel
theorem dL_law_8 : decode cL_law 8 = .ok (.new 10, 3) := by decide +kernel
theorem dL_law_11 : decode cL_law 11 = .ok (.dup, 1) := by decide +kernel
theorem dL_law_12 : decode cL_law 12 = .ok (.invokespecial 12, 3) := by decide +kernel
theorem dL_law_15 : decode cL_law 15 = .ok (.astore_n 2, 1) := by decide +kernel
theorem dL_law_16 : decode cL_law 16 = .ok (.iconst 0, 1) := by decide +kernel
theorem dL_law_17 : decode cL_law 17 = .ok (.istore_n 3, 1) := by decide +kernel
theorem dL_law_18 : decode cL_law 18 = .ok (.iload_n 3, 1) := by decide +kernel
theorem dL_law_19 : decode cL_law 19 = .ok (.aload_n 0, 1) := by decide +kernel
theorem dL_law_20 : decode cL_law 20 = .ok (.arraylength, 1) := by decide +kernel
theorem dL_law_21 : decode cL_law 21 = .ok (.iconst 5, 1) := by decide +kernel
theorem dL_law_22 : decode cL_law 22 = .ok (.isub, 1) := by decide +kernel
theorem dL_law_23 : decode cL_law 23 = .ok (.if_icmp .gt 896, 3) := by decide +kernel
theorem dL_law_26 : decode cL_law 26 = .ok (.aload_n 0, 1) := by decide +kernel
theorem dL_law_27 : decode cL_law 27 = .ok (.iload_n 3, 1) := by decide +kernel
theorem dL_law_28 : decode cL_law 28 = .ok (.iaload, 1) := by decide +kernel
theorem dL_law_29 : decode cL_law 29 = .ok (.bipush 31, 2) := by decide +kernel
theorem dL_law_31 : decode cL_law 31 = .ok (.iand, 1) := by decide +kernel
theorem dL_law_32 : decode cL_law 32 = .ok (.tableswitch 881 0 24 #[116, 159, 202, 235, 268, 321, 344, 377, 410, 433, 456, 469, 492, 505, 518, 541, 574, 597, 640, 673, 706, 739, 782, 815, 868], 116) := by decide +kernel
theorem dL_law_148 : decode cL_law 148 = .ok (.aload_n 1, 1) := by decide +kernel
theorem dL_law_149 : decode cL_law 149 = .ok (.aload_n 0, 1) := by decide +kernel
theorem dL_law_150 : decode cL_law 150 = .ok (.iload_n 3, 1) := by decide +kernel
theorem dL_law_151 : decode cL_law 151 = .ok (.iconst 1, 1) := by decide +kernel
theorem dL_law_152 : decode cL_law 152 = .ok (.iadd, 1) := by decide +kernel
theorem dL_law_153 : decode cL_law 153 = .ok (.iaload, 1) := by decide +kernel
theorem dL_law_154 : decode cL_law 154 = .ok (.aload_n 0, 1) := by decide +kernel
theorem dL_law_155 : decode cL_law 155 = .ok (.iload_n 3, 1) := by decide +kernel
theorem dL_law_156 : decode cL_law 156 = .ok (.iconst 2, 1) := by decide +kernel
theorem dL_law_157 : decode cL_law 157 = .ok (.iadd, 1) := by decide +kernel
theorem dL_law_158 : decode cL_law 158 = .ok (.iaload, 1) := by decide +kernel
theorem dL_law_159 : decode cL_law 159 = .ok (.aload_n 0, 1) := by decide +kernel
theorem dL_law_160 : decode cL_law 160 = .ok (.iload_n 3, 1) := by decide +kernel
theorem dL_law_161 : decode cL_law 161 = .ok (.iconst 3, 1) := by decide +kernel
theorem dL_law_162 : decode cL_law 162 = .ok (.iadd, 1) := by decide +kernel
theorem dL_law_163 : decode cL_law 163 = .ok (.iaload, 1) := by decide +kernel
theorem dL_law_164 : decode cL_law 164 = .ok (.invokevirtual 13, 3) := by decide +kernel
theorem dL_law_167 : decode cL_law 167 = .ok (.aload_n 2, 1) := by decide +kernel
theorem dL_law_168 : decode cL_law 168 = .ok (.aload_n 0, 1) := by decide +kernel
theorem dL_law_169 : decode cL_law 169 = .ok (.iload_n 3, 1) := by decide +kernel
theorem dL_law_170 : decode cL_law 170 = .ok (.iconst 1, 1) := by decide +kernel
theorem dL_law_171 : decode cL_law 171 = .ok (.iadd, 1) := by decide +kernel
theorem dL_law_172 : decode cL_law 172 = .ok (.iaload, 1) := by decide +kernel
theorem dL_law_173 : decode cL_law 173 = .ok (.aload_n 0, 1) := by decide +kernel
theorem dL_law_174 : decode cL_law 174 = .ok (.iload_n 3, 1) := by decide +kernel
theorem dL_law_175 : decode cL_law 175 = .ok (.iconst 2, 1) := by decide +kernel
theorem dL_law_176 : decode cL_law 176 = .ok (.iadd, 1) := by decide +kernel
theorem dL_law_177 : decode cL_law 177 = .ok (.iaload, 1) := by decide +kernel
theorem dL_law_178 : decode cL_law 178 = .ok (.aload_n 0, 1) := by decide +kernel
theorem dL_law_179 : decode cL_law 179 = .ok (.iload_n 3, 1) := by decide +kernel
theorem dL_law_180 : decode cL_law 180 = .ok (.iconst 3, 1) := by decide +kernel
theorem dL_law_181 : decode cL_law 181 = .ok (.iadd, 1) := by decide +kernel
theorem dL_law_182 : decode cL_law 182 = .ok (.iaload, 1) := by decide +kernel
theorem dL_law_183 : decode cL_law 183 = .ok (.invokevirtual 17, 3) := by decide +kernel
theorem dL_law_186 : decode cL_law 186 = .ok (.if_icmp .eq 727, 3) := by decide +kernel
theorem dL_law_189 : decode cL_law 189 = .ok (.iconst 0, 1) := by decide +kernel
theorem dL_law_190 : decode cL_law 190 = .ok (.ireturn, 1) := by decide +kernel
theorem dL_law_191 : decode cL_law 191 = .ok (.aload_n 1, 1) := by decide +kernel
theorem dL_law_192 : decode cL_law 192 = .ok (.aload_n 0, 1) := by decide +kernel
theorem dL_law_193 : decode cL_law 193 = .ok (.iload_n 3, 1) := by decide +kernel
theorem dL_law_194 : decode cL_law 194 = .ok (.iconst 1, 1) := by decide +kernel
theorem dL_law_195 : decode cL_law 195 = .ok (.iadd, 1) := by decide +kernel
theorem dL_law_196 : decode cL_law 196 = .ok (.iaload, 1) := by decide +kernel
theorem dL_law_197 : decode cL_law 197 = .ok (.aload_n 0, 1) := by decide +kernel
theorem dL_law_198 : decode cL_law 198 = .ok (.iload_n 3, 1) := by decide +kernel
theorem dL_law_199 : decode cL_law 199 = .ok (.iconst 2, 1) := by decide +kernel
theorem dL_law_200 : decode cL_law 200 = .ok (.iadd, 1) := by decide +kernel
theorem dL_law_201 : decode cL_law 201 = .ok (.iaload, 1) := by decide +kernel
theorem dL_law_202 : decode cL_law 202 = .ok (.aload_n 0, 1) := by decide +kernel
theorem dL_law_203 : decode cL_law 203 = .ok (.iload_n 3, 1) := by decide +kernel
theorem dL_law_204 : decode cL_law 204 = .ok (.iconst 3, 1) := by decide +kernel
theorem dL_law_205 : decode cL_law 205 = .ok (.iadd, 1) := by decide +kernel
theorem dL_law_206 : decode cL_law 206 = .ok (.iaload, 1) := by decide +kernel
theorem dL_law_207 : decode cL_law 207 = .ok (.invokevirtual 18, 3) := by decide +kernel
theorem dL_law_210 : decode cL_law 210 = .ok (.aload_n 2, 1) := by decide +kernel
theorem dL_law_211 : decode cL_law 211 = .ok (.aload_n 0, 1) := by decide +kernel
theorem dL_law_212 : decode cL_law 212 = .ok (.iload_n 3, 1) := by decide +kernel
theorem dL_law_213 : decode cL_law 213 = .ok (.iconst 1, 1) := by decide +kernel
theorem dL_law_214 : decode cL_law 214 = .ok (.iadd, 1) := by decide +kernel
theorem dL_law_215 : decode cL_law 215 = .ok (.iaload, 1) := by decide +kernel
theorem dL_law_216 : decode cL_law 216 = .ok (.aload_n 0, 1) := by decide +kernel
theorem dL_law_217 : decode cL_law 217 = .ok (.iload_n 3, 1) := by decide +kernel
theorem dL_law_218 : decode cL_law 218 = .ok (.iconst 2, 1) := by decide +kernel
theorem dL_law_219 : decode cL_law 219 = .ok (.iadd, 1) := by decide +kernel
theorem dL_law_220 : decode cL_law 220 = .ok (.iaload, 1) := by decide +kernel
theorem dL_law_221 : decode cL_law 221 = .ok (.aload_n 0, 1) := by decide +kernel
theorem dL_law_222 : decode cL_law 222 = .ok (.iload_n 3, 1) := by decide +kernel
theorem dL_law_223 : decode cL_law 223 = .ok (.iconst 3, 1) := by decide +kernel
theorem dL_law_224 : decode cL_law 224 = .ok (.iadd, 1) := by decide +kernel
theorem dL_law_225 : decode cL_law 225 = .ok (.iaload, 1) := by decide +kernel
theorem dL_law_226 : decode cL_law 226 = .ok (.invokevirtual 21, 3) := by decide +kernel
theorem dL_law_229 : decode cL_law 229 = .ok (.if_icmp .eq 684, 3) := by decide +kernel
theorem dL_law_232 : decode cL_law 232 = .ok (.iconst 0, 1) := by decide +kernel
theorem dL_law_233 : decode cL_law 233 = .ok (.ireturn, 1) := by decide +kernel
theorem dL_law_234 : decode cL_law 234 = .ok (.aload_n 1, 1) := by decide +kernel
theorem dL_law_235 : decode cL_law 235 = .ok (.aload_n 0, 1) := by decide +kernel
theorem dL_law_236 : decode cL_law 236 = .ok (.iload_n 3, 1) := by decide +kernel
theorem dL_law_237 : decode cL_law 237 = .ok (.iconst 1, 1) := by decide +kernel
theorem dL_law_238 : decode cL_law 238 = .ok (.iadd, 1) := by decide +kernel
theorem dL_law_239 : decode cL_law 239 = .ok (.iaload, 1) := by decide +kernel
theorem dL_law_240 : decode cL_law 240 = .ok (.aload_n 0, 1) := by decide +kernel
theorem dL_law_241 : decode cL_law 241 = .ok (.iload_n 3, 1) := by decide +kernel
theorem dL_law_242 : decode cL_law 242 = .ok (.iconst 2, 1) := by decide +kernel
theorem dL_law_243 : decode cL_law 243 = .ok (.iadd, 1) := by decide +kernel
theorem dL_law_244 : decode cL_law 244 = .ok (.iaload, 1) := by decide +kernel
theorem dL_law_245 : decode cL_law 245 = .ok (.invokevirtual 22, 3) := by decide +kernel
theorem dL_law_248 : decode cL_law 248 = .ok (.aload_n 2, 1) := by decide +kernel
theorem dL_law_249 : decode cL_law 249 = .ok (.aload_n 0, 1) := by decide +kernel
theorem dL_law_250 : decode cL_law 250 = .ok (.iload_n 3, 1) := by decide +kernel
theorem dL_law_251 : decode cL_law 251 = .ok (.iconst 1, 1) := by decide +kernel
theorem dL_law_252 : decode cL_law 252 = .ok (.iadd, 1) := by decide +kernel
theorem dL_law_253 : decode cL_law 253 = .ok (.iaload, 1) := by decide +kernel
theorem dL_law_254 : decode cL_law 254 = .ok (.aload_n 0, 1) := by decide +kernel
theorem dL_law_255 : decode cL_law 255 = .ok (.iload_n 3, 1) := by decide +kernel
theorem dL_law_256 : decode cL_law 256 = .ok (.iconst 2, 1) := by decide +kernel
theorem dL_law_257 : decode cL_law 257 = .ok (.iadd, 1) := by decide +kernel
theorem dL_law_258 : decode cL_law 258 = .ok (.iaload, 1) := by decide +kernel
theorem dL_law_259 : decode cL_law 259 = .ok (.invokevirtual 26, 3) := by decide +kernel
theorem dL_law_262 : decode cL_law 262 = .ok (.if_icmp .eq 651, 3) := by decide +kernel
theorem dL_law_265 : decode cL_law 265 = .ok (.iconst 0, 1) := by decide +kernel
theorem dL_law_266 : decode cL_law 266 = .ok (.ireturn, 1) := by decide +kernel
theorem dL_law_267 : decode cL_law 267 = .ok (.aload_n 1, 1) := by decide +kernel
theorem dL_law_268 : decode cL_law 268 = .ok (.aload_n 0, 1) := by decide +kernel
theorem dL_law_269 : decode cL_law 269 = .ok (.iload_n 3, 1) := by decide +kernel
theorem dL_law_270 : decode cL_law 270 = .ok (.iconst 1, 1) := by decide +kernel
theorem dL_law_271 : decode cL_law 271 = .ok (.iadd, 1) := by decide +kernel
theorem dL_law_272 : decode cL_law 272 = .ok (.iaload, 1) := by decide +kernel
theorem dL_law_273 : decode cL_law 273 = .ok (.aload_n 0, 1) := by decide +kernel
theorem dL_law_274 : decode cL_law 274 = .ok (.iload_n 3, 1) := by decide +kernel
theorem dL_law_275 : decode cL_law 275 = .ok (.iconst 2, 1) := by decide +kernel
theorem dL_law_276 : decode cL_law 276 = .ok (.iadd, 1) := by decide +kernel
theorem dL_law_277 : decode cL_law 277 = .ok (.iaload, 1) := by decide +kernel
theorem dL_law_278 : decode cL_law 278 = .ok (.invokevirtual 27, 3) := by decide +kernel
theorem dL_law_281 : decode cL_law 281 = .ok (.aload_n 2, 1) := by decide +kernel
theorem dL_law_282 : decode cL_law 282 = .ok (.aload_n 0, 1) := by decide +kernel
theorem dL_law_283 : decode cL_law 283 = .ok (.iload_n 3, 1) := by decide +kernel
theorem dL_law_284 : decode cL_law 284 = .ok (.iconst 1, 1) := by decide +kernel
theorem dL_law_285 : decode cL_law 285 = .ok (.iadd, 1) := by decide +kernel
theorem dL_law_286 : decode cL_law 286 = .ok (.iaload, 1) := by decide +kernel
theorem dL_law_287 : decode cL_law 287 = .ok (.aload_n 0, 1) := by decide +kernel
theorem dL_law_288 : decode cL_law 288 = .ok (.iload_n 3, 1) := by decide +kernel
theorem dL_law_289 : decode cL_law 289 = .ok (.iconst 2, 1) := by decide +kernel
theorem dL_law_290 : decode cL_law 290 = .ok (.iadd, 1) := by decide +kernel
theorem dL_law_291 : decode cL_law 291 = .ok (.iaload, 1) := by decide +kernel
theorem dL_law_292 : decode cL_law 292 = .ok (.invokevirtual 30, 3) := by decide +kernel
theorem dL_law_295 : decode cL_law 295 = .ok (.if_icmp .eq 618, 3) := by decide +kernel
theorem dL_law_298 : decode cL_law 298 = .ok (.iconst 0, 1) := by decide +kernel
theorem dL_law_299 : decode cL_law 299 = .ok (.ireturn, 1) := by decide +kernel
theorem dL_law_300 : decode cL_law 300 = .ok (.aload_n 1, 1) := by decide +kernel
theorem dL_law_301 : decode cL_law 301 = .ok (.aload_n 0, 1) := by decide +kernel
theorem dL_law_302 : decode cL_law 302 = .ok (.iload_n 3, 1) := by decide +kernel
theorem dL_law_303 : decode cL_law 303 = .ok (.iconst 1, 1) := by decide +kernel
theorem dL_law_304 : decode cL_law 304 = .ok (.iadd, 1) := by decide +kernel
theorem dL_law_305 : decode cL_law 305 = .ok (.iaload, 1) := by decide +kernel
theorem dL_law_306 : decode cL_law 306 = .ok (.aload_n 0, 1) := by decide +kernel
theorem dL_law_307 : decode cL_law 307 = .ok (.iload_n 3, 1) := by decide +kernel
theorem dL_law_308 : decode cL_law 308 = .ok (.iconst 2, 1) := by decide +kernel
theorem dL_law_309 : decode cL_law 309 = .ok (.iadd, 1) := by decide +kernel
theorem dL_law_310 : decode cL_law 310 = .ok (.iaload, 1) := by decide +kernel
theorem dL_law_311 : decode cL_law 311 = .ok (.aload_n 0, 1) := by decide +kernel
theorem dL_law_312 : decode cL_law 312 = .ok (.iload_n 3, 1) := by decide +kernel
theorem dL_law_313 : decode cL_law 313 = .ok (.iconst 3, 1) := by decide +kernel
theorem dL_law_314 : decode cL_law 314 = .ok (.iadd, 1) := by decide +kernel
theorem dL_law_315 : decode cL_law 315 = .ok (.iaload, 1) := by decide +kernel
theorem dL_law_316 : decode cL_law 316 = .ok (.aload_n 0, 1) := by decide +kernel
theorem dL_law_317 : decode cL_law 317 = .ok (.iload_n 3, 1) := by decide +kernel
theorem dL_law_318 : decode cL_law 318 = .ok (.iconst 4, 1) := by decide +kernel
theorem dL_law_319 : decode cL_law 319 = .ok (.iadd, 1) := by decide +kernel
theorem dL_law_320 : decode cL_law 320 = .ok (.iaload, 1) := by decide +kernel
theorem dL_law_321 : decode cL_law 321 = .ok (.invokevirtual 31, 3) := by decide +kernel
theorem dL_law_324 : decode cL_law 324 = .ok (.aload_n 2, 1) := by decide +kernel
theorem dL_law_325 : decode cL_law 325 = .ok (.aload_n 0, 1) := by decide +kernel
theorem dL_law_326 : decode cL_law 326 = .ok (.iload_n 3, 1) := by decide +kernel
theorem dL_law_327 : decode cL_law 327 = .ok (.iconst 1, 1) := by decide +kernel
theorem dL_law_328 : decode cL_law 328 = .ok (.iadd, 1) := by decide +kernel
theorem dL_law_329 : decode cL_law 329 = .ok (.iaload, 1) := by decide +kernel
theorem dL_law_330 : decode cL_law 330 = .ok (.aload_n 0, 1) := by decide +kernel
theorem dL_law_331 : decode cL_law 331 = .ok (.iload_n 3, 1) := by decide +kernel
theorem dL_law_332 : decode cL_law 332 = .ok (.iconst 2, 1) := by decide +kernel
theorem dL_law_333 : decode cL_law 333 = .ok (.iadd, 1) := by decide +kernel
theorem dL_law_334 : decode cL_law 334 = .ok (.iaload, 1) := by decide +kernel
theorem dL_law_335 : decode cL_law 335 = .ok (.aload_n 0, 1) := by decide +kernel
theorem dL_law_336 : decode cL_law 336 = .ok (.iload_n 3, 1) := by decide +kernel
theorem dL_law_337 : decode cL_law 337 = .ok (.iconst 3, 1) := by decide +kernel
theorem dL_law_338 : decode cL_law 338 = .ok (.iadd, 1) := by decide +kernel
theorem dL_law_339 : decode cL_law 339 = .ok (.iaload, 1) := by decide +kernel
theorem dL_law_340 : decode cL_law 340 = .ok (.aload_n 0, 1) := by decide +kernel
theorem dL_law_341 : decode cL_law 341 = .ok (.iload_n 3, 1) := by decide +kernel
theorem dL_law_342 : decode cL_law 342 = .ok (.iconst 4, 1) := by decide +kernel
theorem dL_law_343 : decode cL_law 343 = .ok (.iadd, 1) := by decide +kernel
theorem dL_law_344 : decode cL_law 344 = .ok (.iaload, 1) := by decide +kernel
theorem dL_law_345 : decode cL_law 345 = .ok (.invokevirtual 35, 3) := by decide +kernel
theorem dL_law_348 : decode cL_law 348 = .ok (.if_icmp .eq 565, 3) := by decide +kernel
theorem dL_law_351 : decode cL_law 351 = .ok (.iconst 0, 1) := by decide +kernel
theorem dL_law_352 : decode cL_law 352 = .ok (.ireturn, 1) := by decide +kernel
theorem dL_law_353 : decode cL_law 353 = .ok (.aload_n 1, 1) := by decide +kernel
theorem dL_law_354 : decode cL_law 354 = .ok (.aload_n 0, 1) := by decide +kernel
theorem dL_law_355 : decode cL_law 355 = .ok (.iload_n 3, 1) := by decide +kernel
theorem dL_law_356 : decode cL_law 356 = .ok (.iconst 1, 1) := by decide +kernel
theorem dL_law_357 : decode cL_law 357 = .ok (.iadd, 1) := by decide +kernel
theorem dL_law_358 : decode cL_law 358 = .ok (.iaload, 1) := by decide +kernel
theorem dL_law_359 : decode cL_law 359 = .ok (.invokevirtual 36, 3) := by decide +kernel
theorem dL_law_362 : decode cL_law 362 = .ok (.aload_n 2, 1) := by decide +kernel
theorem dL_law_363 : decode cL_law 363 = .ok (.aload_n 0, 1) := by decide +kernel
theorem dL_law_364 : decode cL_law 364 = .ok (.iload_n 3, 1) := by decide +kernel
theorem dL_law_365 : decode cL_law 365 = .ok (.iconst 1, 1) := by decide +kernel
theorem dL_law_366 : decode cL_law 366 = .ok (.iadd, 1) := by decide +kernel
theorem dL_law_367 : decode cL_law 367 = .ok (.iaload, 1) := by decide +kernel
theorem dL_law_368 : decode cL_law 368 = .ok (.invokevirtual 40, 3) := by decide +kernel
theorem dL_law_371 : decode cL_law 371 = .ok (.if_icmp .eq 542, 3) := by decide +kernel
theorem dL_law_374 : decode cL_law 374 = .ok (.iconst 0, 1) := by decide +kernel
theorem dL_law_375 : decode cL_law 375 = .ok (.ireturn, 1) := by decide +kernel
theorem dL_law_376 : decode cL_law 376 = .ok (.aload_n 1, 1) := by decide +kernel
theorem dL_law_377 : decode cL_law 377 = .ok (.aload_n 0, 1) := by decide +kernel
theorem dL_law_378 : decode cL_law 378 = .ok (.iload_n 3, 1) := by decide +kernel
theorem dL_law_379 : decode cL_law 379 = .ok (.iconst 1, 1) := by decide +kernel
theorem dL_law_380 : decode cL_law 380 = .ok (.iadd, 1) := by decide +kernel
theorem dL_law_381 : decode cL_law 381 = .ok (.iaload, 1) := by decide +kernel
theorem dL_law_382 : decode cL_law 382 = .ok (.aload_n 0, 1) := by decide +kernel
theorem dL_law_383 : decode cL_law 383 = .ok (.iload_n 3, 1) := by decide +kernel
theorem dL_law_384 : decode cL_law 384 = .ok (.iconst 2, 1) := by decide +kernel
theorem dL_law_385 : decode cL_law 385 = .ok (.iadd, 1) := by decide +kernel
theorem dL_law_386 : decode cL_law 386 = .ok (.iaload, 1) := by decide +kernel
theorem dL_law_387 : decode cL_law 387 = .ok (.invokevirtual 41, 3) := by decide +kernel
theorem dL_law_390 : decode cL_law 390 = .ok (.aload_n 2, 1) := by decide +kernel
theorem dL_law_391 : decode cL_law 391 = .ok (.aload_n 0, 1) := by decide +kernel
theorem dL_law_392 : decode cL_law 392 = .ok (.iload_n 3, 1) := by decide +kernel
theorem dL_law_393 : decode cL_law 393 = .ok (.iconst 1, 1) := by decide +kernel
theorem dL_law_394 : decode cL_law 394 = .ok (.iadd, 1) := by decide +kernel
theorem dL_law_395 : decode cL_law 395 = .ok (.iaload, 1) := by decide +kernel
theorem dL_law_396 : decode cL_law 396 = .ok (.aload_n 0, 1) := by decide +kernel
theorem dL_law_397 : decode cL_law 397 = .ok (.iload_n 3, 1) := by decide +kernel
theorem dL_law_398 : decode cL_law 398 = .ok (.iconst 2, 1) := by decide +kernel
theorem dL_law_399 : decode cL_law 399 = .ok (.iadd, 1) := by decide +kernel
theorem dL_law_400 : decode cL_law 400 = .ok (.iaload, 1) := by decide +kernel
theorem dL_law_401 : decode cL_law 401 = .ok (.invokevirtual 44, 3) := by decide +kernel
theorem dL_law_404 : decode cL_law 404 = .ok (.if_icmp .eq 509, 3) := by decide +kernel
theorem dL_law_407 : decode cL_law 407 = .ok (.iconst 0, 1) := by decide +kernel
theorem dL_law_408 : decode cL_law 408 = .ok (.ireturn, 1) := by decide +kernel
theorem dL_law_409 : decode cL_law 409 = .ok (.aload_n 1, 1) := by decide +kernel
theorem dL_law_410 : decode cL_law 410 = .ok (.aload_n 0, 1) := by decide +kernel
theorem dL_law_411 : decode cL_law 411 = .ok (.iload_n 3, 1) := by decide +kernel
theorem dL_law_412 : decode cL_law 412 = .ok (.iconst 1, 1) := by decide +kernel
theorem dL_law_413 : decode cL_law 413 = .ok (.iadd, 1) := by decide +kernel
theorem dL_law_414 : decode cL_law 414 = .ok (.iaload, 1) := by decide +kernel
theorem dL_law_415 : decode cL_law 415 = .ok (.aload_n 0, 1) := by decide +kernel
theorem dL_law_416 : decode cL_law 416 = .ok (.iload_n 3, 1) := by decide +kernel
theorem dL_law_417 : decode cL_law 417 = .ok (.iconst 2, 1) := by decide +kernel
theorem dL_law_418 : decode cL_law 418 = .ok (.iadd, 1) := by decide +kernel
theorem dL_law_419 : decode cL_law 419 = .ok (.iaload, 1) := by decide +kernel
theorem dL_law_420 : decode cL_law 420 = .ok (.invokevirtual 45, 3) := by decide +kernel
theorem dL_law_423 : decode cL_law 423 = .ok (.aload_n 2, 1) := by decide +kernel
theorem dL_law_424 : decode cL_law 424 = .ok (.aload_n 0, 1) := by decide +kernel
theorem dL_law_425 : decode cL_law 425 = .ok (.iload_n 3, 1) := by decide +kernel
theorem dL_law_426 : decode cL_law 426 = .ok (.iconst 1, 1) := by decide +kernel
theorem dL_law_427 : decode cL_law 427 = .ok (.iadd, 1) := by decide +kernel
theorem dL_law_428 : decode cL_law 428 = .ok (.iaload, 1) := by decide +kernel
theorem dL_law_429 : decode cL_law 429 = .ok (.aload_n 0, 1) := by decide +kernel
theorem dL_law_430 : decode cL_law 430 = .ok (.iload_n 3, 1) := by decide +kernel
theorem dL_law_431 : decode cL_law 431 = .ok (.iconst 2, 1) := by decide +kernel
theorem dL_law_432 : decode cL_law 432 = .ok (.iadd, 1) := by decide +kernel
theorem dL_law_433 : decode cL_law 433 = .ok (.iaload, 1) := by decide +kernel
theorem dL_law_434 : decode cL_law 434 = .ok (.invokevirtual 48, 3) := by decide +kernel
theorem dL_law_437 : decode cL_law 437 = .ok (.if_icmp .eq 476, 3) := by decide +kernel
theorem dL_law_440 : decode cL_law 440 = .ok (.iconst 0, 1) := by decide +kernel
theorem dL_law_441 : decode cL_law 441 = .ok (.ireturn, 1) := by decide +kernel
theorem dL_law_442 : decode cL_law 442 = .ok (.aload_n 1, 1) := by decide +kernel
theorem dL_law_443 : decode cL_law 443 = .ok (.aload_n 0, 1) := by decide +kernel
theorem dL_law_444 : decode cL_law 444 = .ok (.iload_n 3, 1) := by decide +kernel
theorem dL_law_445 : decode cL_law 445 = .ok (.iconst 1, 1) := by decide +kernel
theorem dL_law_446 : decode cL_law 446 = .ok (.iadd, 1) := by decide +kernel
theorem dL_law_447 : decode cL_law 447 = .ok (.iaload, 1) := by decide +kernel
theorem dL_law_448 : decode cL_law 448 = .ok (.invokevirtual 49, 3) := by decide +kernel
theorem dL_law_451 : decode cL_law 451 = .ok (.aload_n 2, 1) := by decide +kernel
theorem dL_law_452 : decode cL_law 452 = .ok (.aload_n 0, 1) := by decide +kernel
theorem dL_law_453 : decode cL_law 453 = .ok (.iload_n 3, 1) := by decide +kernel
theorem dL_law_454 : decode cL_law 454 = .ok (.iconst 1, 1) := by decide +kernel
theorem dL_law_455 : decode cL_law 455 = .ok (.iadd, 1) := by decide +kernel
theorem dL_law_456 : decode cL_law 456 = .ok (.iaload, 1) := by decide +kernel
theorem dL_law_457 : decode cL_law 457 = .ok (.invokevirtual 52, 3) := by decide +kernel
theorem dL_law_460 : decode cL_law 460 = .ok (.if_icmp .eq 453, 3) := by decide +kernel
theorem dL_law_463 : decode cL_law 463 = .ok (.iconst 0, 1) := by decide +kernel
theorem dL_law_464 : decode cL_law 464 = .ok (.ireturn, 1) := by decide +kernel
theorem dL_law_465 : decode cL_law 465 = .ok (.aload_n 1, 1) := by decide +kernel
theorem dL_law_466 : decode cL_law 466 = .ok (.aload_n 0, 1) := by decide +kernel
theorem dL_law_467 : decode cL_law 467 = .ok (.iload_n 3, 1) := by decide +kernel
theorem dL_law_468 : decode cL_law 468 = .ok (.iconst 1, 1) := by decide +kernel
theorem dL_law_469 : decode cL_law 469 = .ok (.iadd, 1) := by decide +kernel
theorem dL_law_470 : decode cL_law 470 = .ok (.iaload, 1) := by decide +kernel
theorem dL_law_471 : decode cL_law 471 = .ok (.invokevirtual 53, 3) := by decide +kernel
theorem dL_law_474 : decode cL_law 474 = .ok (.aload_n 2, 1) := by decide +kernel
theorem dL_law_475 : decode cL_law 475 = .ok (.aload_n 0, 1) := by decide +kernel
theorem dL_law_476 : decode cL_law 476 = .ok (.iload_n 3, 1) := by decide +kernel
theorem dL_law_477 : decode cL_law 477 = .ok (.iconst 1, 1) := by decide +kernel
theorem dL_law_478 : decode cL_law 478 = .ok (.iadd, 1) := by decide +kernel
theorem dL_law_479 : decode cL_law 479 = .ok (.iaload, 1) := by decide +kernel
theorem dL_law_480 : decode cL_law 480 = .ok (.invokevirtual 56, 3) := by decide +kernel
theorem dL_law_483 : decode cL_law 483 = .ok (.if_icmp .eq 430, 3) := by decide +kernel
theorem dL_law_486 : decode cL_law 486 = .ok (.iconst 0, 1) := by decide +kernel
theorem dL_law_487 : decode cL_law 487 = .ok (.ireturn, 1) := by decide +kernel
theorem dL_law_488 : decode cL_law 488 = .ok (.aload_n 1, 1) := by decide +kernel
theorem dL_law_489 : decode cL_law 489 = .ok (.invokevirtual 57, 3) := by decide +kernel
theorem dL_law_492 : decode cL_law 492 = .ok (.aload_n 2, 1) := by decide +kernel
theorem dL_law_493 : decode cL_law 493 = .ok (.invokevirtual 61, 3) := by decide +kernel
theorem dL_law_496 : decode cL_law 496 = .ok (.if_icmp .eq 417, 3) := by decide +kernel
theorem dL_law_499 : decode cL_law 499 = .ok (.iconst 0, 1) := by decide +kernel
theorem dL_law_500 : decode cL_law 500 = .ok (.ireturn, 1) := by decide +kernel
theorem dL_law_501 : decode cL_law 501 = .ok (.aload_n 1, 1) := by decide +kernel
theorem dL_law_502 : decode cL_law 502 = .ok (.aload_n 0, 1) := by decide +kernel
theorem dL_law_503 : decode cL_law 503 = .ok (.iload_n 3, 1) := by decide +kernel
theorem dL_law_504 : decode cL_law 504 = .ok (.iconst 1, 1) := by decide +kernel
theorem dL_law_505 : decode cL_law 505 = .ok (.iadd, 1) := by decide +kernel
theorem dL_law_506 : decode cL_law 506 = .ok (.iaload, 1) := by decide +kernel
theorem dL_law_507 : decode cL_law 507 = .ok (.invokevirtual 62, 3) := by decide +kernel
theorem dL_law_510 : decode cL_law 510 = .ok (.aload_n 2, 1) := by decide +kernel
theorem dL_law_511 : decode cL_law 511 = .ok (.aload_n 0, 1) := by decide +kernel
theorem dL_law_512 : decode cL_law 512 = .ok (.iload_n 3, 1) := by decide +kernel
theorem dL_law_513 : decode cL_law 513 = .ok (.iconst 1, 1) := by decide +kernel
theorem dL_law_514 : decode cL_law 514 = .ok (.iadd, 1) := by decide +kernel
theorem dL_law_515 : decode cL_law 515 = .ok (.iaload, 1) := by decide +kernel
theorem dL_law_516 : decode cL_law 516 = .ok (.invokevirtual 65, 3) := by decide +kernel
theorem dL_law_519 : decode cL_law 519 = .ok (.if_icmp .eq 394, 3) := by decide +kernel
theorem dL_law_522 : decode cL_law 522 = .ok (.iconst 0, 1) := by decide +kernel
theorem dL_law_523 : decode cL_law 523 = .ok (.ireturn, 1) := by decide +kernel
theorem dL_law_524 : decode cL_law 524 = .ok (.aload_n 1, 1) := by decide +kernel
theorem dL_law_525 : decode cL_law 525 = .ok (.invokevirtual 66, 3) := by decide +kernel
theorem dL_law_528 : decode cL_law 528 = .ok (.aload_n 2, 1) := by decide +kernel
theorem dL_law_529 : decode cL_law 529 = .ok (.invokevirtual 69, 3) := by decide +kernel
theorem dL_law_532 : decode cL_law 532 = .ok (.if_icmp .eq 381, 3) := by decide +kernel
theorem dL_law_535 : decode cL_law 535 = .ok (.iconst 0, 1) := by decide +kernel
theorem dL_law_536 : decode cL_law 536 = .ok (.ireturn, 1) := by decide +kernel
theorem dL_law_537 : decode cL_law 537 = .ok (.aload_n 1, 1) := by decide +kernel
theorem dL_law_538 : decode cL_law 538 = .ok (.invokevirtual 70, 3) := by decide +kernel
theorem dL_law_541 : decode cL_law 541 = .ok (.aload_n 2, 1) := by decide +kernel
theorem dL_law_542 : decode cL_law 542 = .ok (.invokevirtual 73, 3) := by decide +kernel
theorem dL_law_545 : decode cL_law 545 = .ok (.if_icmp .eq 368, 3) := by decide +kernel
theorem dL_law_548 : decode cL_law 548 = .ok (.iconst 0, 1) := by decide +kernel
theorem dL_law_549 : decode cL_law 549 = .ok (.ireturn, 1) := by decide +kernel
theorem dL_law_550 : decode cL_law 550 = .ok (.aload_n 1, 1) := by decide +kernel
theorem dL_law_551 : decode cL_law 551 = .ok (.aload_n 0, 1) := by decide +kernel
theorem dL_law_552 : decode cL_law 552 = .ok (.iload_n 3, 1) := by decide +kernel
theorem dL_law_553 : decode cL_law 553 = .ok (.iconst 1, 1) := by decide +kernel
theorem dL_law_554 : decode cL_law 554 = .ok (.iadd, 1) := by decide +kernel
theorem dL_law_555 : decode cL_law 555 = .ok (.iaload, 1) := by decide +kernel
theorem dL_law_556 : decode cL_law 556 = .ok (.invokevirtual 74, 3) := by decide +kernel
theorem dL_law_559 : decode cL_law 559 = .ok (.aload_n 2, 1) := by decide +kernel
theorem dL_law_560 : decode cL_law 560 = .ok (.aload_n 0, 1) := by decide +kernel
theorem dL_law_561 : decode cL_law 561 = .ok (.iload_n 3, 1) := by decide +kernel
theorem dL_law_562 : decode cL_law 562 = .ok (.iconst 1, 1) := by decide +kernel
theorem dL_law_563 : decode cL_law 563 = .ok (.iadd, 1) := by decide +kernel
theorem dL_law_564 : decode cL_law 564 = .ok (.iaload, 1) := by decide +kernel
theorem dL_law_565 : decode cL_law 565 = .ok (.invokevirtual 77, 3) := by decide +kernel
theorem dL_law_568 : decode cL_law 568 = .ok (.if_icmp .eq 345, 3) := by decide +kernel
theorem dL_law_571 : decode cL_law 571 = .ok (.iconst 0, 1) := by decide +kernel
theorem dL_law_572 : decode cL_law 572 = .ok (.ireturn, 1) := by decide +kernel
theorem dL_law_573 : decode cL_law 573 = .ok (.aload_n 1, 1) := by decide +kernel
theorem dL_law_574 : decode cL_law 574 = .ok (.aload_n 0, 1) := by decide +kernel
theorem dL_law_575 : decode cL_law 575 = .ok (.iload_n 3, 1) := by decide +kernel
theorem dL_law_576 : decode cL_law 576 = .ok (.iconst 1, 1) := by decide +kernel
theorem dL_law_577 : decode cL_law 577 = .ok (.iadd, 1) := by decide +kernel
theorem dL_law_578 : decode cL_law 578 = .ok (.iaload, 1) := by decide +kernel
theorem dL_law_579 : decode cL_law 579 = .ok (.aload_n 0, 1) := by decide +kernel
theorem dL_law_580 : decode cL_law 580 = .ok (.iload_n 3, 1) := by decide +kernel
theorem dL_law_581 : decode cL_law 581 = .ok (.iconst 2, 1) := by decide +kernel
theorem dL_law_582 : decode cL_law 582 = .ok (.iadd, 1) := by decide +kernel
theorem dL_law_583 : decode cL_law 583 = .ok (.iaload, 1) := by decide +kernel
theorem dL_law_584 : decode cL_law 584 = .ok (.invokevirtual 78, 3) := by decide +kernel
theorem dL_law_587 : decode cL_law 587 = .ok (.aload_n 2, 1) := by decide +kernel
theorem dL_law_588 : decode cL_law 588 = .ok (.aload_n 0, 1) := by decide +kernel
theorem dL_law_589 : decode cL_law 589 = .ok (.iload_n 3, 1) := by decide +kernel
theorem dL_law_590 : decode cL_law 590 = .ok (.iconst 1, 1) := by decide +kernel
theorem dL_law_591 : decode cL_law 591 = .ok (.iadd, 1) := by decide +kernel
theorem dL_law_592 : decode cL_law 592 = .ok (.iaload, 1) := by decide +kernel
theorem dL_law_593 : decode cL_law 593 = .ok (.aload_n 0, 1) := by decide +kernel
theorem dL_law_594 : decode cL_law 594 = .ok (.iload_n 3, 1) := by decide +kernel
theorem dL_law_595 : decode cL_law 595 = .ok (.iconst 2, 1) := by decide +kernel
theorem dL_law_596 : decode cL_law 596 = .ok (.iadd, 1) := by decide +kernel
theorem dL_law_597 : decode cL_law 597 = .ok (.iaload, 1) := by decide +kernel
theorem dL_law_598 : decode cL_law 598 = .ok (.invokevirtual 81, 3) := by decide +kernel
theorem dL_law_601 : decode cL_law 601 = .ok (.if_icmp .eq 312, 3) := by decide +kernel
theorem dL_law_604 : decode cL_law 604 = .ok (.iconst 0, 1) := by decide +kernel
theorem dL_law_605 : decode cL_law 605 = .ok (.ireturn, 1) := by decide +kernel
theorem dL_law_606 : decode cL_law 606 = .ok (.aload_n 1, 1) := by decide +kernel
theorem dL_law_607 : decode cL_law 607 = .ok (.aload_n 0, 1) := by decide +kernel
theorem dL_law_608 : decode cL_law 608 = .ok (.iload_n 3, 1) := by decide +kernel
theorem dL_law_609 : decode cL_law 609 = .ok (.iconst 1, 1) := by decide +kernel
theorem dL_law_610 : decode cL_law 610 = .ok (.iadd, 1) := by decide +kernel
theorem dL_law_611 : decode cL_law 611 = .ok (.iaload, 1) := by decide +kernel
theorem dL_law_612 : decode cL_law 612 = .ok (.invokevirtual 82, 3) := by decide +kernel
theorem dL_law_615 : decode cL_law 615 = .ok (.aload_n 2, 1) := by decide +kernel
theorem dL_law_616 : decode cL_law 616 = .ok (.aload_n 0, 1) := by decide +kernel
theorem dL_law_617 : decode cL_law 617 = .ok (.iload_n 3, 1) := by decide +kernel
theorem dL_law_618 : decode cL_law 618 = .ok (.iconst 1, 1) := by decide +kernel
theorem dL_law_619 : decode cL_law 619 = .ok (.iadd, 1) := by decide +kernel
theorem dL_law_620 : decode cL_law 620 = .ok (.iaload, 1) := by decide +kernel
theorem dL_law_621 : decode cL_law 621 = .ok (.invokevirtual 85, 3) := by decide +kernel
theorem dL_law_624 : decode cL_law 624 = .ok (.if_icmp .eq 289, 3) := by decide +kernel
theorem dL_law_627 : decode cL_law 627 = .ok (.iconst 0, 1) := by decide +kernel
theorem dL_law_628 : decode cL_law 628 = .ok (.ireturn, 1) := by decide +kernel
theorem dL_law_629 : decode cL_law 629 = .ok (.aload_n 1, 1) := by decide +kernel
theorem dL_law_630 : decode cL_law 630 = .ok (.aload_n 0, 1) := by decide +kernel
theorem dL_law_631 : decode cL_law 631 = .ok (.iload_n 3, 1) := by decide +kernel
theorem dL_law_632 : decode cL_law 632 = .ok (.iconst 1, 1) := by decide +kernel
theorem dL_law_633 : decode cL_law 633 = .ok (.iadd, 1) := by decide +kernel
theorem dL_law_634 : decode cL_law 634 = .ok (.iaload, 1) := by decide +kernel
theorem dL_law_635 : decode cL_law 635 = .ok (.aload_n 0, 1) := by decide +kernel
theorem dL_law_636 : decode cL_law 636 = .ok (.iload_n 3, 1) := by decide +kernel
theorem dL_law_637 : decode cL_law 637 = .ok (.iconst 2, 1) := by decide +kernel
theorem dL_law_638 : decode cL_law 638 = .ok (.iadd, 1) := by decide +kernel
theorem dL_law_639 : decode cL_law 639 = .ok (.iaload, 1) := by decide +kernel
theorem dL_law_640 : decode cL_law 640 = .ok (.aload_n 0, 1) := by decide +kernel
theorem dL_law_641 : decode cL_law 641 = .ok (.iload_n 3, 1) := by decide +kernel
theorem dL_law_642 : decode cL_law 642 = .ok (.iconst 3, 1) := by decide +kernel
theorem dL_law_643 : decode cL_law 643 = .ok (.iadd, 1) := by decide +kernel
theorem dL_law_644 : decode cL_law 644 = .ok (.iaload, 1) := by decide +kernel
theorem dL_law_645 : decode cL_law 645 = .ok (.invokevirtual 86, 3) := by decide +kernel
theorem dL_law_648 : decode cL_law 648 = .ok (.aload_n 2, 1) := by decide +kernel
theorem dL_law_649 : decode cL_law 649 = .ok (.aload_n 0, 1) := by decide +kernel
theorem dL_law_650 : decode cL_law 650 = .ok (.iload_n 3, 1) := by decide +kernel
theorem dL_law_651 : decode cL_law 651 = .ok (.iconst 1, 1) := by decide +kernel
theorem dL_law_652 : decode cL_law 652 = .ok (.iadd, 1) := by decide +kernel
theorem dL_law_653 : decode cL_law 653 = .ok (.iaload, 1) := by decide +kernel
theorem dL_law_654 : decode cL_law 654 = .ok (.aload_n 0, 1) := by decide +kernel
theorem dL_law_655 : decode cL_law 655 = .ok (.iload_n 3, 1) := by decide +kernel
theorem dL_law_656 : decode cL_law 656 = .ok (.iconst 2, 1) := by decide +kernel
theorem dL_law_657 : decode cL_law 657 = .ok (.iadd, 1) := by decide +kernel
theorem dL_law_658 : decode cL_law 658 = .ok (.iaload, 1) := by decide +kernel
theorem dL_law_659 : decode cL_law 659 = .ok (.aload_n 0, 1) := by decide +kernel
theorem dL_law_660 : decode cL_law 660 = .ok (.iload_n 3, 1) := by decide +kernel
theorem dL_law_661 : decode cL_law 661 = .ok (.iconst 3, 1) := by decide +kernel
theorem dL_law_662 : decode cL_law 662 = .ok (.iadd, 1) := by decide +kernel
theorem dL_law_663 : decode cL_law 663 = .ok (.iaload, 1) := by decide +kernel
theorem dL_law_664 : decode cL_law 664 = .ok (.invokevirtual 89, 3) := by decide +kernel
theorem dL_law_667 : decode cL_law 667 = .ok (.if_icmp .eq 246, 3) := by decide +kernel
theorem dL_law_670 : decode cL_law 670 = .ok (.iconst 0, 1) := by decide +kernel
theorem dL_law_671 : decode cL_law 671 = .ok (.ireturn, 1) := by decide +kernel
theorem dL_law_672 : decode cL_law 672 = .ok (.aload_n 1, 1) := by decide +kernel
theorem dL_law_673 : decode cL_law 673 = .ok (.aload_n 0, 1) := by decide +kernel
theorem dL_law_674 : decode cL_law 674 = .ok (.iload_n 3, 1) := by decide +kernel
theorem dL_law_675 : decode cL_law 675 = .ok (.iconst 1, 1) := by decide +kernel
theorem dL_law_676 : decode cL_law 676 = .ok (.iadd, 1) := by decide +kernel
theorem dL_law_677 : decode cL_law 677 = .ok (.iaload, 1) := by decide +kernel
theorem dL_law_678 : decode cL_law 678 = .ok (.aload_n 0, 1) := by decide +kernel
theorem dL_law_679 : decode cL_law 679 = .ok (.iload_n 3, 1) := by decide +kernel
theorem dL_law_680 : decode cL_law 680 = .ok (.iconst 2, 1) := by decide +kernel
theorem dL_law_681 : decode cL_law 681 = .ok (.iadd, 1) := by decide +kernel
theorem dL_law_682 : decode cL_law 682 = .ok (.iaload, 1) := by decide +kernel
theorem dL_law_683 : decode cL_law 683 = .ok (.invokevirtual 90, 3) := by decide +kernel
theorem dL_law_686 : decode cL_law 686 = .ok (.aload_n 2, 1) := by decide +kernel
theorem dL_law_687 : decode cL_law 687 = .ok (.aload_n 0, 1) := by decide +kernel
theorem dL_law_688 : decode cL_law 688 = .ok (.iload_n 3, 1) := by decide +kernel
theorem dL_law_689 : decode cL_law 689 = .ok (.iconst 1, 1) := by decide +kernel
theorem dL_law_690 : decode cL_law 690 = .ok (.iadd, 1) := by decide +kernel
theorem dL_law_691 : decode cL_law 691 = .ok (.iaload, 1) := by decide +kernel
theorem dL_law_692 : decode cL_law 692 = .ok (.aload_n 0, 1) := by decide +kernel
theorem dL_law_693 : decode cL_law 693 = .ok (.iload_n 3, 1) := by decide +kernel
theorem dL_law_694 : decode cL_law 694 = .ok (.iconst 2, 1) := by decide +kernel
theorem dL_law_695 : decode cL_law 695 = .ok (.iadd, 1) := by decide +kernel
theorem dL_law_696 : decode cL_law 696 = .ok (.iaload, 1) := by decide +kernel
theorem dL_law_697 : decode cL_law 697 = .ok (.invokevirtual 93, 3) := by decide +kernel
theorem dL_law_700 : decode cL_law 700 = .ok (.if_icmp .eq 213, 3) := by decide +kernel
theorem dL_law_703 : decode cL_law 703 = .ok (.iconst 0, 1) := by decide +kernel
theorem dL_law_704 : decode cL_law 704 = .ok (.ireturn, 1) := by decide +kernel
theorem dL_law_705 : decode cL_law 705 = .ok (.aload_n 1, 1) := by decide +kernel
theorem dL_law_706 : decode cL_law 706 = .ok (.aload_n 0, 1) := by decide +kernel
theorem dL_law_707 : decode cL_law 707 = .ok (.iload_n 3, 1) := by decide +kernel
theorem dL_law_708 : decode cL_law 708 = .ok (.iconst 1, 1) := by decide +kernel
theorem dL_law_709 : decode cL_law 709 = .ok (.iadd, 1) := by decide +kernel
theorem dL_law_710 : decode cL_law 710 = .ok (.iaload, 1) := by decide +kernel
theorem dL_law_711 : decode cL_law 711 = .ok (.aload_n 0, 1) := by decide +kernel
theorem dL_law_712 : decode cL_law 712 = .ok (.iload_n 3, 1) := by decide +kernel
theorem dL_law_713 : decode cL_law 713 = .ok (.iconst 2, 1) := by decide +kernel
theorem dL_law_714 : decode cL_law 714 = .ok (.iadd, 1) := by decide +kernel
theorem dL_law_715 : decode cL_law 715 = .ok (.iaload, 1) := by decide +kernel
theorem dL_law_716 : decode cL_law 716 = .ok (.invokevirtual 94, 3) := by decide +kernel
theorem dL_law_719 : decode cL_law 719 = .ok (.aload_n 2, 1) := by decide +kernel
theorem dL_law_720 : decode cL_law 720 = .ok (.aload_n 0, 1) := by decide +kernel
theorem dL_law_721 : decode cL_law 721 = .ok (.iload_n 3, 1) := by decide +kernel
theorem dL_law_722 : decode cL_law 722 = .ok (.iconst 1, 1) := by decide +kernel
theorem dL_law_723 : decode cL_law 723 = .ok (.iadd, 1) := by decide +kernel
theorem dL_law_724 : decode cL_law 724 = .ok (.iaload, 1) := by decide +kernel
theorem dL_law_725 : decode cL_law 725 = .ok (.aload_n 0, 1) := by decide +kernel
theorem dL_law_726 : decode cL_law 726 = .ok (.iload_n 3, 1) := by decide +kernel
theorem dL_law_727 : decode cL_law 727 = .ok (.iconst 2, 1) := by decide +kernel
theorem dL_law_728 : decode cL_law 728 = .ok (.iadd, 1) := by decide +kernel
theorem dL_law_729 : decode cL_law 729 = .ok (.iaload, 1) := by decide +kernel
theorem dL_law_730 : decode cL_law 730 = .ok (.invokevirtual 97, 3) := by decide +kernel
theorem dL_law_733 : decode cL_law 733 = .ok (.if_icmp .eq 180, 3) := by decide +kernel
theorem dL_law_736 : decode cL_law 736 = .ok (.iconst 0, 1) := by decide +kernel
theorem dL_law_737 : decode cL_law 737 = .ok (.ireturn, 1) := by decide +kernel
theorem dL_law_738 : decode cL_law 738 = .ok (.aload_n 1, 1) := by decide +kernel
theorem dL_law_739 : decode cL_law 739 = .ok (.aload_n 0, 1) := by decide +kernel
theorem dL_law_740 : decode cL_law 740 = .ok (.iload_n 3, 1) := by decide +kernel
theorem dL_law_741 : decode cL_law 741 = .ok (.iconst 1, 1) := by decide +kernel
theorem dL_law_742 : decode cL_law 742 = .ok (.iadd, 1) := by decide +kernel
theorem dL_law_743 : decode cL_law 743 = .ok (.iaload, 1) := by decide +kernel
theorem dL_law_744 : decode cL_law 744 = .ok (.aload_n 0, 1) := by decide +kernel
theorem dL_law_745 : decode cL_law 745 = .ok (.iload_n 3, 1) := by decide +kernel
theorem dL_law_746 : decode cL_law 746 = .ok (.iconst 2, 1) := by decide +kernel
theorem dL_law_747 : decode cL_law 747 = .ok (.iadd, 1) := by decide +kernel
theorem dL_law_748 : decode cL_law 748 = .ok (.iaload, 1) := by decide +kernel
theorem dL_law_749 : decode cL_law 749 = .ok (.invokevirtual 98, 3) := by decide +kernel
theorem dL_law_752 : decode cL_law 752 = .ok (.aload_n 2, 1) := by decide +kernel
theorem dL_law_753 : decode cL_law 753 = .ok (.aload_n 0, 1) := by decide +kernel
theorem dL_law_754 : decode cL_law 754 = .ok (.iload_n 3, 1) := by decide +kernel
theorem dL_law_755 : decode cL_law 755 = .ok (.iconst 1, 1) := by decide +kernel
theorem dL_law_756 : decode cL_law 756 = .ok (.iadd, 1) := by decide +kernel
theorem dL_law_757 : decode cL_law 757 = .ok (.iaload, 1) := by decide +kernel
theorem dL_law_758 : decode cL_law 758 = .ok (.aload_n 0, 1) := by decide +kernel
theorem dL_law_759 : decode cL_law 759 = .ok (.iload_n 3, 1) := by decide +kernel
theorem dL_law_760 : decode cL_law 760 = .ok (.iconst 2, 1) := by decide +kernel
theorem dL_law_761 : decode cL_law 761 = .ok (.iadd, 1) := by decide +kernel
theorem dL_law_762 : decode cL_law 762 = .ok (.iaload, 1) := by decide +kernel
theorem dL_law_763 : decode cL_law 763 = .ok (.invokevirtual 101, 3) := by decide +kernel
theorem dL_law_766 : decode cL_law 766 = .ok (.if_icmp .eq 147, 3) := by decide +kernel
theorem dL_law_769 : decode cL_law 769 = .ok (.iconst 0, 1) := by decide +kernel
theorem dL_law_770 : decode cL_law 770 = .ok (.ireturn, 1) := by decide +kernel
theorem dL_law_771 : decode cL_law 771 = .ok (.aload_n 1, 1) := by decide +kernel
theorem dL_law_772 : decode cL_law 772 = .ok (.aload_n 0, 1) := by decide +kernel
theorem dL_law_773 : decode cL_law 773 = .ok (.iload_n 3, 1) := by decide +kernel
theorem dL_law_774 : decode cL_law 774 = .ok (.iconst 1, 1) := by decide +kernel
theorem dL_law_775 : decode cL_law 775 = .ok (.iadd, 1) := by decide +kernel
theorem dL_law_776 : decode cL_law 776 = .ok (.iaload, 1) := by decide +kernel
theorem dL_law_777 : decode cL_law 777 = .ok (.aload_n 0, 1) := by decide +kernel
theorem dL_law_778 : decode cL_law 778 = .ok (.iload_n 3, 1) := by decide +kernel
theorem dL_law_779 : decode cL_law 779 = .ok (.iconst 2, 1) := by decide +kernel
theorem dL_law_780 : decode cL_law 780 = .ok (.iadd, 1) := by decide +kernel
theorem dL_law_781 : decode cL_law 781 = .ok (.iaload, 1) := by decide +kernel
theorem dL_law_782 : decode cL_law 782 = .ok (.aload_n 0, 1) := by decide +kernel
theorem dL_law_783 : decode cL_law 783 = .ok (.iload_n 3, 1) := by decide +kernel
theorem dL_law_784 : decode cL_law 784 = .ok (.iconst 3, 1) := by decide +kernel
theorem dL_law_785 : decode cL_law 785 = .ok (.iadd, 1) := by decide +kernel
theorem dL_law_786 : decode cL_law 786 = .ok (.iaload, 1) := by decide +kernel
theorem dL_law_787 : decode cL_law 787 = .ok (.invokevirtual 102, 3) := by decide +kernel
theorem dL_law_790 : decode cL_law 790 = .ok (.aload_n 2, 1) := by decide +kernel
theorem dL_law_791 : decode cL_law 791 = .ok (.aload_n 0, 1) := by decide +kernel
theorem dL_law_792 : decode cL_law 792 = .ok (.iload_n 3, 1) := by decide +kernel
theorem dL_law_793 : decode cL_law 793 = .ok (.iconst 1, 1) := by decide +kernel
theorem dL_law_794 : decode cL_law 794 = .ok (.iadd, 1) := by decide +kernel
theorem dL_law_795 : decode cL_law 795 = .ok (.iaload, 1) := by decide +kernel
theorem dL_law_796 : decode cL_law 796 = .ok (.aload_n 0, 1) := by decide +kernel
theorem dL_law_797 : decode cL_law 797 = .ok (.iload_n 3, 1) := by decide +kernel
theorem dL_law_798 : decode cL_law 798 = .ok (.iconst 2, 1) := by decide +kernel
theorem dL_law_799 : decode cL_law 799 = .ok (.iadd, 1) := by decide +kernel
theorem dL_law_800 : decode cL_law 800 = .ok (.iaload, 1) := by decide +kernel
theorem dL_law_801 : decode cL_law 801 = .ok (.aload_n 0, 1) := by decide +kernel
theorem dL_law_802 : decode cL_law 802 = .ok (.iload_n 3, 1) := by decide +kernel
theorem dL_law_803 : decode cL_law 803 = .ok (.iconst 3, 1) := by decide +kernel
theorem dL_law_804 : decode cL_law 804 = .ok (.iadd, 1) := by decide +kernel
theorem dL_law_805 : decode cL_law 805 = .ok (.iaload, 1) := by decide +kernel
theorem dL_law_806 : decode cL_law 806 = .ok (.invokevirtual 105, 3) := by decide +kernel
theorem dL_law_809 : decode cL_law 809 = .ok (.if_icmp .eq 104, 3) := by decide +kernel
theorem dL_law_812 : decode cL_law 812 = .ok (.iconst 0, 1) := by decide +kernel
theorem dL_law_813 : decode cL_law 813 = .ok (.ireturn, 1) := by decide +kernel
theorem dL_law_814 : decode cL_law 814 = .ok (.aload_n 1, 1) := by decide +kernel
theorem dL_law_815 : decode cL_law 815 = .ok (.aload_n 0, 1) := by decide +kernel
theorem dL_law_816 : decode cL_law 816 = .ok (.iload_n 3, 1) := by decide +kernel
theorem dL_law_817 : decode cL_law 817 = .ok (.iconst 1, 1) := by decide +kernel
theorem dL_law_818 : decode cL_law 818 = .ok (.iadd, 1) := by decide +kernel
theorem dL_law_819 : decode cL_law 819 = .ok (.iaload, 1) := by decide +kernel
theorem dL_law_820 : decode cL_law 820 = .ok (.aload_n 0, 1) := by decide +kernel
theorem dL_law_821 : decode cL_law 821 = .ok (.iload_n 3, 1) := by decide +kernel
theorem dL_law_822 : decode cL_law 822 = .ok (.iconst 2, 1) := by decide +kernel
theorem dL_law_823 : decode cL_law 823 = .ok (.iadd, 1) := by decide +kernel
theorem dL_law_824 : decode cL_law 824 = .ok (.iaload, 1) := by decide +kernel
theorem dL_law_825 : decode cL_law 825 = .ok (.invokevirtual 106, 3) := by decide +kernel
theorem dL_law_828 : decode cL_law 828 = .ok (.aload_n 2, 1) := by decide +kernel
theorem dL_law_829 : decode cL_law 829 = .ok (.aload_n 0, 1) := by decide +kernel
theorem dL_law_830 : decode cL_law 830 = .ok (.iload_n 3, 1) := by decide +kernel
theorem dL_law_831 : decode cL_law 831 = .ok (.iconst 1, 1) := by decide +kernel
theorem dL_law_832 : decode cL_law 832 = .ok (.iadd, 1) := by decide +kernel
theorem dL_law_833 : decode cL_law 833 = .ok (.iaload, 1) := by decide +kernel
theorem dL_law_834 : decode cL_law 834 = .ok (.aload_n 0, 1) := by decide +kernel
theorem dL_law_835 : decode cL_law 835 = .ok (.iload_n 3, 1) := by decide +kernel
theorem dL_law_836 : decode cL_law 836 = .ok (.iconst 2, 1) := by decide +kernel
theorem dL_law_837 : decode cL_law 837 = .ok (.iadd, 1) := by decide +kernel
theorem dL_law_838 : decode cL_law 838 = .ok (.iaload, 1) := by decide +kernel
theorem dL_law_839 : decode cL_law 839 = .ok (.invokevirtual 109, 3) := by decide +kernel
theorem dL_law_842 : decode cL_law 842 = .ok (.if_icmp .eq 71, 3) := by decide +kernel
theorem dL_law_845 : decode cL_law 845 = .ok (.iconst 0, 1) := by decide +kernel
theorem dL_law_846 : decode cL_law 846 = .ok (.ireturn, 1) := by decide +kernel
theorem dL_law_847 : decode cL_law 847 = .ok (.aload_n 1, 1) := by decide +kernel
theorem dL_law_848 : decode cL_law 848 = .ok (.aload_n 0, 1) := by decide +kernel
theorem dL_law_849 : decode cL_law 849 = .ok (.iload_n 3, 1) := by decide +kernel
theorem dL_law_850 : decode cL_law 850 = .ok (.iconst 1, 1) := by decide +kernel
theorem dL_law_851 : decode cL_law 851 = .ok (.iadd, 1) := by decide +kernel
theorem dL_law_852 : decode cL_law 852 = .ok (.iaload, 1) := by decide +kernel
theorem dL_law_853 : decode cL_law 853 = .ok (.aload_n 0, 1) := by decide +kernel
theorem dL_law_854 : decode cL_law 854 = .ok (.iload_n 3, 1) := by decide +kernel
theorem dL_law_855 : decode cL_law 855 = .ok (.iconst 2, 1) := by decide +kernel
theorem dL_law_856 : decode cL_law 856 = .ok (.iadd, 1) := by decide +kernel
theorem dL_law_857 : decode cL_law 857 = .ok (.iaload, 1) := by decide +kernel
theorem dL_law_858 : decode cL_law 858 = .ok (.aload_n 0, 1) := by decide +kernel
theorem dL_law_859 : decode cL_law 859 = .ok (.iload_n 3, 1) := by decide +kernel
theorem dL_law_860 : decode cL_law 860 = .ok (.iconst 3, 1) := by decide +kernel
theorem dL_law_861 : decode cL_law 861 = .ok (.iadd, 1) := by decide +kernel
theorem dL_law_862 : decode cL_law 862 = .ok (.iaload, 1) := by decide +kernel
theorem dL_law_863 : decode cL_law 863 = .ok (.aload_n 0, 1) := by decide +kernel
theorem dL_law_864 : decode cL_law 864 = .ok (.iload_n 3, 1) := by decide +kernel
theorem dL_law_865 : decode cL_law 865 = .ok (.iconst 4, 1) := by decide +kernel
theorem dL_law_866 : decode cL_law 866 = .ok (.iadd, 1) := by decide +kernel
theorem dL_law_867 : decode cL_law 867 = .ok (.iaload, 1) := by decide +kernel
theorem dL_law_868 : decode cL_law 868 = .ok (.invokevirtual 110, 3) := by decide +kernel
theorem dL_law_871 : decode cL_law 871 = .ok (.aload_n 2, 1) := by decide +kernel
theorem dL_law_872 : decode cL_law 872 = .ok (.aload_n 0, 1) := by decide +kernel
theorem dL_law_873 : decode cL_law 873 = .ok (.iload_n 3, 1) := by decide +kernel
theorem dL_law_874 : decode cL_law 874 = .ok (.iconst 1, 1) := by decide +kernel
theorem dL_law_875 : decode cL_law 875 = .ok (.iadd, 1) := by decide +kernel
theorem dL_law_876 : decode cL_law 876 = .ok (.iaload, 1) := by decide +kernel
theorem dL_law_877 : decode cL_law 877 = .ok (.aload_n 0, 1) := by decide +kernel
theorem dL_law_878 : decode cL_law 878 = .ok (.iload_n 3, 1) := by decide +kernel
theorem dL_law_879 : decode cL_law 879 = .ok (.iconst 2, 1) := by decide +kernel
theorem dL_law_880 : decode cL_law 880 = .ok (.iadd, 1) := by decide +kernel
theorem dL_law_881 : decode cL_law 881 = .ok (.iaload, 1) := by decide +kernel
theorem dL_law_882 : decode cL_law 882 = .ok (.aload_n 0, 1) := by decide +kernel
theorem dL_law_883 : decode cL_law 883 = .ok (.iload_n 3, 1) := by decide +kernel
theorem dL_law_884 : decode cL_law 884 = .ok (.iconst 3, 1) := by decide +kernel
theorem dL_law_885 : decode cL_law 885 = .ok (.iadd, 1) := by decide +kernel
theorem dL_law_886 : decode cL_law 886 = .ok (.iaload, 1) := by decide +kernel
theorem dL_law_887 : decode cL_law 887 = .ok (.aload_n 0, 1) := by decide +kernel
theorem dL_law_888 : decode cL_law 888 = .ok (.iload_n 3, 1) := by decide +kernel
theorem dL_law_889 : decode cL_law 889 = .ok (.iconst 4, 1) := by decide +kernel
theorem dL_law_890 : decode cL_law 890 = .ok (.iadd, 1) := by decide +kernel
theorem dL_law_891 : decode cL_law 891 = .ok (.iaload, 1) := by decide +kernel
theorem dL_law_892 : decode cL_law 892 = .ok (.invokevirtual 113, 3) := by decide +kernel
theorem dL_law_895 : decode cL_law 895 = .ok (.if_icmp .eq 18, 3) := by decide +kernel
theorem dL_law_898 : decode cL_law 898 = .ok (.iconst 0, 1) := by decide +kernel
theorem dL_law_899 : decode cL_law 899 = .ok (.ireturn, 1) := by decide +kernel
theorem dL_law_900 : decode cL_law 900 = .ok (.aload_n 1, 1) := by decide +kernel
theorem dL_law_901 : decode cL_law 901 = .ok (.invokevirtual 114, 3) := by decide +kernel
theorem dL_law_904 : decode cL_law 904 = .ok (.aload_n 2, 1) := by decide +kernel
theorem dL_law_905 : decode cL_law 905 = .ok (.invokevirtual 117, 3) := by decide +kernel
theorem dL_law_908 : decode cL_law 908 = .ok (.if_icmp .eq 5, 3) := by decide +kernel
theorem dL_law_911 : decode cL_law 911 = .ok (.iconst 0, 1) := by decide +kernel
theorem dL_law_912 : decode cL_law 912 = .ok (.ireturn, 1) := by decide +kernel
theorem dL_law_913 : decode cL_law 913 = .ok (.iinc 3 5, 3) := by decide +kernel
theorem dL_law_916 : decode cL_law 916 = .ok (.goto (-898), 3) := by decide +kernel
theorem dL_law_919 : decode cL_law 919 = .ok (.iconst 1, 1) := by decide +kernel
theorem dL_law_920 : decode cL_law 920 = .ok (.ireturn, 1) := by decide +kernel
