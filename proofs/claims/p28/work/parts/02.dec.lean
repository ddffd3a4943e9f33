theorem dX0_init_0 : decode cX0_init 0 = .ok (.aload_n 0, 1) := by decide +kernel
theorem dX0_init_1 : decode cX0_init 1 = .ok (.invokespecial 3, 3) := by decide +kernel
theorem dX0_init_4 : decode cX0_init 4 = .ok (.aload_n 0, 1) := by decide +kernel
theorem dX0_init_5 : decode cX0_init 5 = .ok (.bipush 6, 2) := by decide +kernel
theorem dX0_init_7 : decode cX0_init 7 = .ok (.bipush 40, 2) := by decide +kernel
theorem dX0_init_9 : decode cX0_init 9 = .ok (.multianewarray 11 2, 4) := by decide +kernel
theorem dX0_init_13 : decode cX0_init 13 = .ok (.putfield 13, 3) := by decide +kernel
theorem dX0_init_16 : decode cX0_init 16 = .ok (.aload_n 0, 1) := by decide +kernel
theorem dX0_init_17 : decode cX0_init 17 = .ok (.bipush 6, 2) := by decide +kernel
theorem dX0_init_19 : decode cX0_init 19 = .ok (.newarray .int, 2) := by decide +kernel
theorem dX0_init_21 : decode cX0_init 21 = .ok (.putfield 16, 3) := by decide +kernel
theorem dX0_init_24 : decode cX0_init 24 = .ok (.return_, 1) := by decide +kernel
theorem dX0_has_0 : decode cX0_has 0 = .ok (.iload_n 1, 1) := by decide +kernel
theorem dX0_has_1 : decode cX0_has 1 = .ok (.ifCond .lt 13, 3) := by decide +kernel
theorem dX0_has_4 : decode cX0_has 4 = .ok (.iload_n 1, 1) := by decide +kernel
theorem dX0_has_5 : decode cX0_has 5 = .ok (.bipush 6, 2) := by decide +kernel
theorem dX0_has_7 : decode cX0_has 7 = .ok (.if_icmp .ge 7, 3) := by decide +kernel
theorem dX0_has_10 : decode cX0_has 10 = .ok (.iconst 1, 1) := by decide +kernel
theorem dX0_has_11 : decode cX0_has 11 = .ok (.goto 4, 3) := by decide +kernel
theorem dX0_has_14 : decode cX0_has 14 = .ok (.iconst 0, 1) := by decide +kernel
theorem dX0_has_15 : decode cX0_has 15 = .ok (.ireturn, 1) := by decide +kernel
theorem dX0_hasPlace_0 : decode cX0_hasPlace 0 = .ok (.iload_n 1, 1) := by decide +kernel
theorem dX0_hasPlace_1 : decode cX0_hasPlace 1 = .ok (.ifCond .lt 27, 3) := by decide +kernel
theorem dX0_hasPlace_4 : decode cX0_hasPlace 4 = .ok (.iload_n 1, 1) := by decide +kernel
theorem dX0_hasPlace_5 : decode cX0_hasPlace 5 = .ok (.bipush 6, 2) := by decide +kernel
theorem dX0_hasPlace_7 : decode cX0_hasPlace 7 = .ok (.if_icmp .ge 21, 3) := by decide +kernel
theorem dX0_hasPlace_10 : decode cX0_hasPlace 10 = .ok (.iload_n 2, 1) := by decide +kernel
theorem dX0_hasPlace_11 : decode cX0_hasPlace 11 = .ok (.ifCond .lt 17, 3) := by decide +kernel
theorem dX0_hasPlace_14 : decode cX0_hasPlace 14 = .ok (.iload_n 2, 1) := by decide +kernel
theorem dX0_hasPlace_15 : decode cX0_hasPlace 15 = .ok (.aload_n 0, 1) := by decide +kernel
theorem dX0_hasPlace_16 : decode cX0_hasPlace 16 = .ok (.getfield 16, 3) := by decide +kernel
theorem dX0_hasPlace_19 : decode cX0_hasPlace 19 = .ok (.iload_n 1, 1) := by decide +kernel
theorem dX0_hasPlace_20 : decode cX0_hasPlace 20 = .ok (.iaload, 1) := by decide +kernel
theorem dX0_hasPlace_21 : decode cX0_hasPlace 21 = .ok (.if_icmp .ge 7, 3) := by decide +kernel
theorem dX0_hasPlace_24 : decode cX0_hasPlace 24 = .ok (.iconst 1, 1) := by decide +kernel
theorem dX0_hasPlace_25 : decode cX0_hasPlace 25 = .ok (.goto 4, 3) := by decide +kernel
theorem dX0_hasPlace_28 : decode cX0_hasPlace 28 = .ok (.iconst 0, 1) := by decide +kernel
theorem dX0_hasPlace_29 : decode cX0_hasPlace 29 = .ok (.ireturn, 1) := by decide +kernel
theorem dX0_lengthOf_0 : decode cX0_lengthOf 0 = .ok (.iload_n 1, 1) := by decide +kernel
theorem dX0_lengthOf_1 : decode cX0_lengthOf 1 = .ok (.ifCond .lt 18, 3) := by decide +kernel
theorem dX0_lengthOf_4 : decode cX0_lengthOf 4 = .ok (.iload_n 1, 1) := by decide +kernel
theorem dX0_lengthOf_5 : decode cX0_lengthOf 5 = .ok (.bipush 6, 2) := by decide +kernel
theorem dX0_lengthOf_7 : decode cX0_lengthOf 7 = .ok (.if_icmp .ge 12, 3) := by decide +kernel
theorem dX0_lengthOf_10 : decode cX0_lengthOf 10 = .ok (.aload_n 0, 1) := by decide +kernel
theorem dX0_lengthOf_11 : decode cX0_lengthOf 11 = .ok (.getfield 16, 3) := by decide +kernel
theorem dX0_lengthOf_14 : decode cX0_lengthOf 14 = .ok (.iload_n 1, 1) := by decide +kernel
theorem dX0_lengthOf_15 : decode cX0_lengthOf 15 = .ok (.iaload, 1) := by decide +kernel
theorem dX0_lengthOf_16 : decode cX0_lengthOf 16 = .ok (.goto 4, 3) := by decide +kernel
theorem dX0_lengthOf_19 : decode cX0_lengthOf 19 = .ok (.iconst 0, 1) := by decide +kernel
theorem dX0_lengthOf_20 : decode cX0_lengthOf 20 = .ok (.ireturn, 1) := by decide +kernel
theorem dX0_wordAt_0 : decode cX0_wordAt 0 = .ok (.iload_n 1, 1) := by decide +kernel
theorem dX0_wordAt_1 : decode cX0_wordAt 1 = .ok (.ifCond .lt 23, 3) := by decide +kernel
theorem dX0_wordAt_4 : decode cX0_wordAt 4 = .ok (.iload_n 1, 1) := by decide +kernel
theorem dX0_wordAt_5 : decode cX0_wordAt 5 = .ok (.bipush 6, 2) := by decide +kernel
theorem dX0_wordAt_7 : decode cX0_wordAt 7 = .ok (.if_icmp .ge 17, 3) := by decide +kernel
theorem dX0_wordAt_10 : decode cX0_wordAt 10 = .ok (.iload_n 2, 1) := by decide +kernel
theorem dX0_wordAt_11 : decode cX0_wordAt 11 = .ok (.ifCond .lt 13, 3) := by decide +kernel
theorem dX0_wordAt_14 : decode cX0_wordAt 14 = .ok (.iload_n 2, 1) := by decide +kernel
theorem dX0_wordAt_15 : decode cX0_wordAt 15 = .ok (.aload_n 0, 1) := by decide +kernel
theorem dX0_wordAt_16 : decode cX0_wordAt 16 = .ok (.getfield 16, 3) := by decide +kernel
theorem dX0_wordAt_19 : decode cX0_wordAt 19 = .ok (.iload_n 1, 1) := by decide +kernel
theorem dX0_wordAt_20 : decode cX0_wordAt 20 = .ok (.iaload, 1) := by decide +kernel
theorem dX0_wordAt_21 : decode cX0_wordAt 21 = .ok (.if_icmp .lt 6, 3) := by decide +kernel
theorem dX0_wordAt_24 : decode cX0_wordAt 24 = .ok (.bipush (-99), 2) := by decide +kernel
theorem dX0_wordAt_26 : decode cX0_wordAt 26 = .ok (.ireturn, 1) := by decide +kernel
theorem dX0_wordAt_27 : decode cX0_wordAt 27 = .ok (.aload_n 0, 1) := by decide +kernel
theorem dX0_wordAt_28 : decode cX0_wordAt 28 = .ok (.getfield 13, 3) := by decide +kernel
theorem dX0_wordAt_31 : decode cX0_wordAt 31 = .ok (.iload_n 1, 1) := by decide +kernel
theorem dX0_wordAt_32 : decode cX0_wordAt 32 = .ok (.aaload, 1) := by decide +kernel
theorem dX0_wordAt_33 : decode cX0_wordAt 33 = .ok (.iload_n 2, 1) := by decide +kernel
theorem dX0_wordAt_34 : decode cX0_wordAt 34 = .ok (.iaload, 1) := by decide +kernel
theorem dX0_wordAt_35 : decode cX0_wordAt 35 = .ok (.ireturn, 1) := by decide +kernel
theorem dX0_put_0 : decode cX0_put 0 = .ok (.aload_n 0, 1) := by decide +kernel
theorem dX0_put_1 : decode cX0_put 1 = .ok (.iload_n 1, 1) := by decide +kernel
theorem dX0_put_2 : decode cX0_put 2 = .ok (.invokevirtual 20, 3) := by decide +kernel
theorem dX0_put_5 : decode cX0_put 5 = .ok (.ifCond .eq 28, 3) := by decide +kernel
theorem dX0_put_8 : decode cX0_put 8 = .ok (.iload_n 2, 1) := by decide +kernel
theorem dX0_put_9 : decode cX0_put 9 = .ok (.ifCond .lt 24, 3) := by decide +kernel
theorem dX0_put_12 : decode cX0_put 12 = .ok (.iload_n 2, 1) := by decide +kernel
theorem dX0_put_13 : decode cX0_put 13 = .ok (.aload_n 0, 1) := by decide +kernel
theorem dX0_put_14 : decode cX0_put 14 = .ok (.getfield 16, 3) := by decide +kernel
theorem dX0_put_17 : decode cX0_put 17 = .ok (.iload_n 1, 1) := by decide +kernel
theorem dX0_put_18 : decode cX0_put 18 = .ok (.iaload, 1) := by decide +kernel
theorem dX0_put_19 : decode cX0_put 19 = .ok (.if_icmp .gt 14, 3) := by decide +kernel
theorem dX0_put_22 : decode cX0_put 22 = .ok (.aload_n 0, 1) := by decide +kernel
theorem dX0_put_23 : decode cX0_put 23 = .ok (.getfield 16, 3) := by decide +kernel
theorem dX0_put_26 : decode cX0_put 26 = .ok (.iload_n 1, 1) := by decide +kernel
theorem dX0_put_27 : decode cX0_put 27 = .ok (.iaload, 1) := by decide +kernel
theorem dX0_put_28 : decode cX0_put 28 = .ok (.bipush 40, 2) := by decide +kernel
theorem dX0_put_30 : decode cX0_put 30 = .ok (.if_icmp .lt 4, 3) := by decide +kernel
theorem dX0_put_33 : decode cX0_put 33 = .ok (.return_, 1) := by decide +kernel
theorem dX0_put_34 : decode cX0_put 34 = .ok (.aload_n 0, 1) := by decide +kernel
theorem dX0_put_35 : decode cX0_put 35 = .ok (.getfield 13, 3) := by decide +kernel
theorem dX0_put_38 : decode cX0_put 38 = .ok (.iload_n 1, 1) := by decide +kernel
theorem dX0_put_39 : decode cX0_put 39 = .ok (.aaload, 1) := by decide +kernel
theorem dX0_put_40 : decode cX0_put 40 = .ok (.astore 4, 2) := by decide +kernel
theorem dX0_put_42 : decode cX0_put 42 = .ok (.aload_n 0, 1) := by decide +kernel
theorem dX0_put_43 : decode cX0_put 43 = .ok (.getfield 16, 3) := by decide +kernel
theorem dX0_put_46 : decode cX0_put 46 = .ok (.iload_n 1, 1) := by decide +kernel
theorem dX0_put_47 : decode cX0_put 47 = .ok (.iaload, 1) := by decide +kernel
theorem dX0_put_48 : decode cX0_put 48 = .ok (.istore 5, 2) := by decide +kernel
theorem dX0_put_50 : decode cX0_put 50 = .ok (.iload 5, 2) := by decide +kernel
theorem dX0_put_52 : decode cX0_put 52 = .ok (.iload_n 2, 1) := by decide +kernel
theorem dX0_put_53 : decode cX0_put 53 = .ok (.if_icmp .le 21, 3) := by decide +kernel
theorem dX0_put_56 : decode cX0_put 56 = .ok (.aload 4, 2) := by decide +kernel
theorem dX0_put_58 : decode cX0_put 58 = .ok (.iload 5, 2) := by decide +kernel
theorem dX0_put_60 : decode cX0_put 60 = .ok (.aload 4, 2) := by decide +kernel
theorem dX0_put_62 : decode cX0_put 62 = .ok (.iload 5, 2) := by decide +kernel
theorem dX0_put_64 : decode cX0_put 64 = .ok (.iconst 1, 1) := by decide +kernel
theorem dX0_put_65 : decode cX0_put 65 = .ok (.isub, 1) := by decide +kernel
theorem dX0_put_66 : decode cX0_put 66 = .ok (.iaload, 1) := by decide +kernel
theorem dX0_put_67 : decode cX0_put 67 = .ok (.iastore, 1) := by decide +kernel
theorem dX0_put_68 : decode cX0_put 68 = .ok (.iinc 5 (-1), 3) := by decide +kernel
theorem dX0_put_71 : decode cX0_put 71 = .ok (.goto (-21), 3) := by decide +kernel
theorem dX0_put_74 : decode cX0_put 74 = .ok (.aload 4, 2) := by decide +kernel
theorem dX0_put_76 : decode cX0_put 76 = .ok (.iload_n 2, 1) := by decide +kernel
theorem dX0_put_77 : decode cX0_put 77 = .ok (.iload_n 3, 1) := by decide +kernel
theorem dX0_put_78 : decode cX0_put 78 = .ok (.iastore, 1) := by decide +kernel
theorem dX0_put_79 : decode cX0_put 79 = .ok (.aload_n 0, 1) := by decide +kernel
theorem dX0_put_80 : decode cX0_put 80 = .ok (.getfield 16, 3) := by decide +kernel
theorem dX0_put_83 : decode cX0_put 83 = .ok (.iload_n 1, 1) := by decide +kernel
theorem dX0_put_84 : decode cX0_put 84 = .ok (.dup2, 1) := by decide +kernel
theorem dX0_put_85 : decode cX0_put 85 = .ok (.iaload, 1) := by decide +kernel
theorem dX0_put_86 : decode cX0_put 86 = .ok (.iconst 1, 1) := by decide +kernel
theorem dX0_put_87 : decode cX0_put 87 = .ok (.iadd, 1) := by decide +kernel
theorem dX0_put_88 : decode cX0_put 88 = .ok (.iastore, 1) := by decide +kernel
theorem dX0_put_89 : decode cX0_put 89 = .ok (.return_, 1) := by decide +kernel
theorem dX0_cut_0 : decode cX0_cut 0 = .ok (.aload_n 0, 1) := by decide +kernel
theorem dX0_cut_1 : decode cX0_cut 1 = .ok (.iload_n 1, 1) := by decide +kernel
theorem dX0_cut_2 : decode cX0_cut 2 = .ok (.iload_n 2, 1) := by decide +kernel
theorem dX0_cut_3 : decode cX0_cut 3 = .ok (.invokevirtual 24, 3) := by decide +kernel
theorem dX0_cut_6 : decode cX0_cut 6 = .ok (.ifCond .eq 17, 3) := by decide +kernel
theorem dX0_cut_9 : decode cX0_cut 9 = .ok (.aload_n 0, 1) := by decide +kernel
theorem dX0_cut_10 : decode cX0_cut 10 = .ok (.iload_n 1, 1) := by decide +kernel
theorem dX0_cut_11 : decode cX0_cut 11 = .ok (.iload_n 3, 1) := by decide +kernel
theorem dX0_cut_12 : decode cX0_cut 12 = .ok (.invokevirtual 24, 3) := by decide +kernel
theorem dX0_cut_15 : decode cX0_cut 15 = .ok (.ifCond .eq 8, 3) := by decide +kernel
theorem dX0_cut_18 : decode cX0_cut 18 = .ok (.iload_n 3, 1) := by decide +kernel
theorem dX0_cut_19 : decode cX0_cut 19 = .ok (.iload_n 2, 1) := by decide +kernel
theorem dX0_cut_20 : decode cX0_cut 20 = .ok (.if_icmp .ge 4, 3) := by decide +kernel
theorem dX0_cut_23 : decode cX0_cut 23 = .ok (.return_, 1) := by decide +kernel
theorem dX0_cut_24 : decode cX0_cut 24 = .ok (.aload_n 0, 1) := by decide +kernel
theorem dX0_cut_25 : decode cX0_cut 25 = .ok (.getfield 13, 3) := by decide +kernel
theorem dX0_cut_28 : decode cX0_cut 28 = .ok (.iload_n 1, 1) := by decide +kernel
theorem dX0_cut_29 : decode cX0_cut 29 = .ok (.aaload, 1) := by decide +kernel
theorem dX0_cut_30 : decode cX0_cut 30 = .ok (.astore 4, 2) := by decide +kernel
theorem dX0_cut_32 : decode cX0_cut 32 = .ok (.iload_n 3, 1) := by decide +kernel
theorem dX0_cut_33 : decode cX0_cut 33 = .ok (.iload_n 2, 1) := by decide +kernel
theorem dX0_cut_34 : decode cX0_cut 34 = .ok (.isub, 1) := by decide +kernel
theorem dX0_cut_35 : decode cX0_cut 35 = .ok (.iconst 1, 1) := by decide +kernel
theorem dX0_cut_36 : decode cX0_cut 36 = .ok (.iadd, 1) := by decide +kernel
theorem dX0_cut_37 : decode cX0_cut 37 = .ok (.istore 5, 2) := by decide +kernel
theorem dX0_cut_39 : decode cX0_cut 39 = .ok (.iload_n 3, 1) := by decide +kernel
theorem dX0_cut_40 : decode cX0_cut 40 = .ok (.iconst 1, 1) := by decide +kernel
theorem dX0_cut_41 : decode cX0_cut 41 = .ok (.iadd, 1) := by decide +kernel
theorem dX0_cut_42 : decode cX0_cut 42 = .ok (.istore 6, 2) := by decide +kernel
theorem dX0_cut_44 : decode cX0_cut 44 = .ok (.iload 6, 2) := by decide +kernel
theorem dX0_cut_46 : decode cX0_cut 46 = .ok (.aload_n 0, 1) := by decide +kernel
theorem dX0_cut_47 : decode cX0_cut 47 = .ok (.getfield 16, 3) := by decide +kernel
theorem dX0_cut_50 : decode cX0_cut 50 = .ok (.iload_n 1, 1) := by decide +kernel
theorem dX0_cut_51 : decode cX0_cut 51 = .ok (.iaload, 1) := by decide +kernel
theorem dX0_cut_52 : decode cX0_cut 52 = .ok (.if_icmp .ge 22, 3) := by decide +kernel
theorem dX0_cut_55 : decode cX0_cut 55 = .ok (.aload 4, 2) := by decide +kernel
theorem dX0_cut_57 : decode cX0_cut 57 = .ok (.iload 6, 2) := by decide +kernel
theorem dX0_cut_59 : decode cX0_cut 59 = .ok (.iload 5, 2) := by decide +kernel
theorem dX0_cut_61 : decode cX0_cut 61 = .ok (.isub, 1) := by decide +kernel
theorem dX0_cut_62 : decode cX0_cut 62 = .ok (.aload 4, 2) := by decide +kernel
theorem dX0_cut_64 : decode cX0_cut 64 = .ok (.iload 6, 2) := by decide +kernel
theorem dX0_cut_66 : decode cX0_cut 66 = .ok (.iaload, 1) := by decide +kernel
theorem dX0_cut_67 : decode cX0_cut 67 = .ok (.iastore, 1) := by decide +kernel
theorem dX0_cut_68 : decode cX0_cut 68 = .ok (.iinc 6 1, 3) := by decide +kernel
theorem dX0_cut_71 : decode cX0_cut 71 = .ok (.goto (-27), 3) := by decide +kernel
theorem dX0_cut_74 : decode cX0_cut 74 = .ok (.aload_n 0, 1) := by decide +kernel
theorem dX0_cut_75 : decode cX0_cut 75 = .ok (.getfield 16, 3) := by decide +kernel
theorem dX0_cut_78 : decode cX0_cut 78 = .ok (.iload_n 1, 1) := by decide +kernel
theorem dX0_cut_79 : decode cX0_cut 79 = .ok (.dup2, 1) := by decide +kernel
theorem dX0_cut_80 : decode cX0_cut 80 = .ok (.iaload, 1) := by decide +kernel
theorem dX0_cut_81 : decode cX0_cut 81 = .ok (.iload 5, 2) := by decide +kernel
theorem dX0_cut_83 : decode cX0_cut 83 = .ok (.isub, 1) := by decide +kernel
theorem dX0_cut_84 : decode cX0_cut 84 = .ok (.iastore, 1) := by decide +kernel
theorem dX0_cut_85 : decode cX0_cut 85 = .ok (.return_, 1) := by decide +kernel
theorem dX0_exchange_0 : decode cX0_exchange 0 = .ok (.iconst 0, 1) := by decide +kernel
theorem dX0_exchange_1 : decode cX0_exchange 1 = .ok (.istore_n 3, 1) := by decide +kernel
theorem dX0_exchange_2 : decode cX0_exchange 2 = .ok (.iconst 0, 1) := by decide +kernel
theorem dX0_exchange_3 : decode cX0_exchange 3 = .ok (.istore 4, 2) := by decide +kernel
theorem dX0_exchange_5 : decode cX0_exchange 5 = .ok (.iload 4, 2) := by decide +kernel
theorem dX0_exchange_7 : decode cX0_exchange 7 = .ok (.bipush 6, 2) := by decide +kernel
theorem dX0_exchange_9 : decode cX0_exchange 9 = .ok (.if_icmp .ge 58, 3) := by decide +kernel
theorem dX0_exchange_12 : decode cX0_exchange 12 = .ok (.iconst 0, 1) := by decide +kernel
theorem dX0_exchange_13 : decode cX0_exchange 13 = .ok (.istore 5, 2) := by decide +kernel
theorem dX0_exchange_15 : decode cX0_exchange 15 = .ok (.iload 5, 2) := by decide +kernel
theorem dX0_exchange_17 : decode cX0_exchange 17 = .ok (.aload_n 0, 1) := by decide +kernel
theorem dX0_exchange_18 : decode cX0_exchange 18 = .ok (.getfield 16, 3) := by decide +kernel
theorem dX0_exchange_21 : decode cX0_exchange 21 = .ok (.iload 4, 2) := by decide +kernel
theorem dX0_exchange_23 : decode cX0_exchange 23 = .ok (.iaload, 1) := by decide +kernel
theorem dX0_exchange_24 : decode cX0_exchange 24 = .ok (.if_icmp .ge 37, 3) := by decide +kernel
theorem dX0_exchange_27 : decode cX0_exchange 27 = .ok (.aload_n 0, 1) := by decide +kernel
theorem dX0_exchange_28 : decode cX0_exchange 28 = .ok (.getfield 13, 3) := by decide +kernel
theorem dX0_exchange_31 : decode cX0_exchange 31 = .ok (.iload 4, 2) := by decide +kernel
theorem dX0_exchange_33 : decode cX0_exchange 33 = .ok (.aaload, 1) := by decide +kernel
theorem dX0_exchange_34 : decode cX0_exchange 34 = .ok (.iload 5, 2) := by decide +kernel
theorem dX0_exchange_36 : decode cX0_exchange 36 = .ok (.iaload, 1) := by decide +kernel
theorem dX0_exchange_37 : decode cX0_exchange 37 = .ok (.iload_n 1, 1) := by decide +kernel
theorem dX0_exchange_38 : decode cX0_exchange 38 = .ok (.if_icmp .ne 17, 3) := by decide +kernel
theorem dX0_exchange_41 : decode cX0_exchange 41 = .ok (.aload_n 0, 1) := by decide +kernel
theorem dX0_exchange_42 : decode cX0_exchange 42 = .ok (.getfield 13, 3) := by decide +kernel
theorem dX0_exchange_45 : decode cX0_exchange 45 = .ok (.iload 4, 2) := by decide +kernel
theorem dX0_exchange_47 : decode cX0_exchange 47 = .ok (.aaload, 1) := by decide +kernel
theorem dX0_exchange_48 : decode cX0_exchange 48 = .ok (.iload 5, 2) := by decide +kernel
theorem dX0_exchange_50 : decode cX0_exchange 50 = .ok (.iload_n 2, 1) := by decide +kernel
theorem dX0_exchange_51 : decode cX0_exchange 51 = .ok (.iastore, 1) := by decide +kernel
theorem dX0_exchange_52 : decode cX0_exchange 52 = .ok (.iinc 3 1, 3) := by decide +kernel
theorem dX0_exchange_55 : decode cX0_exchange 55 = .ok (.iinc 5 1, 3) := by decide +kernel
theorem dX0_exchange_58 : decode cX0_exchange 58 = .ok (.goto (-43), 3) := by decide +kernel
theorem dX0_exchange_61 : decode cX0_exchange 61 = .ok (.iinc 4 1, 3) := by decide +kernel
theorem dX0_exchange_64 : decode cX0_exchange 64 = .ok (.goto (-59), 3) := by decide +kernel
theorem dX0_exchange_67 : decode cX0_exchange 67 = .ok (.iload_n 3, 1) := by decide +kernel
theorem dX0_exchange_68 : decode cX0_exchange 68 = .ok (.ireturn, 1) := by decide +kernel
theorem dX0_trade_0 : decode cX0_trade 0 = .ok (.aload_n 0, 1) := by decide +kernel
theorem dX0_trade_1 : decode cX0_trade 1 = .ok (.iload_n 1, 1) := by decide +kernel
theorem dX0_trade_2 : decode cX0_trade 2 = .ok (.invokevirtual 20, 3) := by decide +kernel
theorem dX0_trade_5 : decode cX0_trade 5 = .ok (.ifCond .eq 11, 3) := by decide +kernel
theorem dX0_trade_8 : decode cX0_trade 8 = .ok (.aload_n 0, 1) := by decide +kernel
theorem dX0_trade_9 : decode cX0_trade 9 = .ok (.iload_n 2, 1) := by decide +kernel
theorem dX0_trade_10 : decode cX0_trade 10 = .ok (.invokevirtual 20, 3) := by decide +kernel
theorem dX0_trade_13 : decode cX0_trade 13 = .ok (.ifCond .ne 4, 3) := by decide +kernel
theorem dX0_trade_16 : decode cX0_trade 16 = .ok (.return_, 1) := by decide +kernel
theorem dX0_trade_17 : decode cX0_trade 17 = .ok (.aload_n 0, 1) := by decide +kernel
theorem dX0_trade_18 : decode cX0_trade 18 = .ok (.getfield 13, 3) := by decide +kernel
theorem dX0_trade_21 : decode cX0_trade 21 = .ok (.iload_n 1, 1) := by decide +kernel
theorem dX0_trade_22 : decode cX0_trade 22 = .ok (.aaload, 1) := by decide +kernel
theorem dX0_trade_23 : decode cX0_trade 23 = .ok (.astore_n 3, 1) := by decide +kernel
theorem dX0_trade_24 : decode cX0_trade 24 = .ok (.aload_n 0, 1) := by decide +kernel
theorem dX0_trade_25 : decode cX0_trade 25 = .ok (.getfield 13, 3) := by decide +kernel
theorem dX0_trade_28 : decode cX0_trade 28 = .ok (.iload_n 1, 1) := by decide +kernel
theorem dX0_trade_29 : decode cX0_trade 29 = .ok (.aload_n 0, 1) := by decide +kernel
theorem dX0_trade_30 : decode cX0_trade 30 = .ok (.getfield 13, 3) := by decide +kernel
theorem dX0_trade_33 : decode cX0_trade 33 = .ok (.iload_n 2, 1) := by decide +kernel
theorem dX0_trade_34 : decode cX0_trade 34 = .ok (.aaload, 1) := by decide +kernel
theorem dX0_trade_35 : decode cX0_trade 35 = .ok (.aastore, 1) := by decide +kernel
theorem dX0_trade_36 : decode cX0_trade 36 = .ok (.aload_n 0, 1) := by decide +kernel
theorem dX0_trade_37 : decode cX0_trade 37 = .ok (.getfield 13, 3) := by decide +kernel
theorem dX0_trade_40 : decode cX0_trade 40 = .ok (.iload_n 2, 1) := by decide +kernel
theorem dX0_trade_41 : decode cX0_trade 41 = .ok (.aload_n 3, 1) := by decide +kernel
theorem dX0_trade_42 : decode cX0_trade 42 = .ok (.aastore, 1) := by decide +kernel
theorem dX0_trade_43 : decode cX0_trade 43 = .ok (.aload_n 0, 1) := by decide +kernel
theorem dX0_trade_44 : decode cX0_trade 44 = .ok (.getfield 16, 3) := by decide +kernel
theorem dX0_trade_47 : decode cX0_trade 47 = .ok (.iload_n 1, 1) := by decide +kernel
theorem dX0_trade_48 : decode cX0_trade 48 = .ok (.iaload, 1) := by decide +kernel
theorem dX0_trade_49 : decode cX0_trade 49 = .ok (.istore 4, 2) := by decide +kernel
theorem dX0_trade_51 : decode cX0_trade 51 = .ok (.aload_n 0, 1) := by decide +kernel
theorem dX0_trade_52 : decode cX0_trade 52 = .ok (.getfield 16, 3) := by decide +kernel
theorem dX0_trade_55 : decode cX0_trade 55 = .ok (.iload_n 1, 1) := by decide +kernel
theorem dX0_trade_56 : decode cX0_trade 56 = .ok (.aload_n 0, 1) := by decide +kernel
theorem dX0_trade_57 : decode cX0_trade 57 = .ok (.getfield 16, 3) := by decide +kernel
theorem dX0_trade_60 : decode cX0_trade 60 = .ok (.iload_n 2, 1) := by decide +kernel
theorem dX0_trade_61 : decode cX0_trade 61 = .ok (.iaload, 1) := by decide +kernel
theorem dX0_trade_62 : decode cX0_trade 62 = .ok (.iastore, 1) := by decide +kernel
theorem dX0_trade_63 : decode cX0_trade 63 = .ok (.aload_n 0, 1) := by decide +kernel
theorem dX0_trade_64 : decode cX0_trade 64 = .ok (.getfield 16, 3) := by decide +kernel
theorem dX0_trade_67 : decode cX0_trade 67 = .ok (.iload_n 2, 1) := by decide +kernel
theorem dX0_trade_68 : decode cX0_trade 68 = .ok (.iload 4, 2) := by decide +kernel
theorem dX0_trade_70 : decode cX0_trade 70 = .ok (.iastore, 1) := by decide +kernel
theorem dX0_trade_71 : decode cX0_trade 71 = .ok (.return_, 1) := by decide +kernel
theorem dX0_total_0 : decode cX0_total 0 = .ok (.iconst 0, 1) := by decide +kernel
theorem dX0_total_1 : decode cX0_total 1 = .ok (.istore_n 1, 1) := by decide +kernel
theorem dX0_total_2 : decode cX0_total 2 = .ok (.iconst 0, 1) := by decide +kernel
theorem dX0_total_3 : decode cX0_total 3 = .ok (.istore_n 2, 1) := by decide +kernel
theorem dX0_total_4 : decode cX0_total 4 = .ok (.iload_n 2, 1) := by decide +kernel
theorem dX0_total_5 : decode cX0_total 5 = .ok (.bipush 6, 2) := by decide +kernel
theorem dX0_total_7 : decode cX0_total 7 = .ok (.if_icmp .ge 18, 3) := by decide +kernel
theorem dX0_total_10 : decode cX0_total 10 = .ok (.iload_n 1, 1) := by decide +kernel
theorem dX0_total_11 : decode cX0_total 11 = .ok (.aload_n 0, 1) := by decide +kernel
theorem dX0_total_12 : decode cX0_total 12 = .ok (.getfield 16, 3) := by decide +kernel
theorem dX0_total_15 : decode cX0_total 15 = .ok (.iload_n 2, 1) := by decide +kernel
theorem dX0_total_16 : decode cX0_total 16 = .ok (.iaload, 1) := by decide +kernel
theorem dX0_total_17 : decode cX0_total 17 = .ok (.iadd, 1) := by decide +kernel
theorem dX0_total_18 : decode cX0_total 18 = .ok (.istore_n 1, 1) := by decide +kernel
theorem dX0_total_19 : decode cX0_total 19 = .ok (.iinc 2 1, 3) := by decide +kernel
theorem dX0_total_22 : decode cX0_total 22 = .ok (.goto (-18), 3) := by decide +kernel
theorem dX0_total_25 : decode cX0_total 25 = .ok (.iload_n 1, 1) := by decide +kernel
theorem dX0_total_26 : decode cX0_total 26 = .ok (.ireturn, 1) := by decide +kernel
theorem dX0_copyFrom_0 : decode cX0_copyFrom 0 = .ok (.iconst 0, 1) := by decide +kernel
theorem dX0_copyFrom_1 : decode cX0_copyFrom 1 = .ok (.istore_n 2, 1) := by decide +kernel
theorem dX0_copyFrom_2 : decode cX0_copyFrom 2 = .ok (.iload_n 2, 1) := by decide +kernel
theorem dX0_copyFrom_3 : decode cX0_copyFrom 3 = .ok (.bipush 6, 2) := by decide +kernel
theorem dX0_copyFrom_5 : decode cX0_copyFrom 5 = .ok (.if_icmp .ge 28, 3) := by decide +kernel
theorem dX0_copyFrom_8 : decode cX0_copyFrom 8 = .ok (.aload_n 1, 1) := by decide +kernel
theorem dX0_copyFrom_9 : decode cX0_copyFrom 9 = .ok (.getfield 13, 3) := by decide +kernel
theorem dX0_copyFrom_12 : decode cX0_copyFrom 12 = .ok (.iload_n 2, 1) := by decide +kernel
theorem dX0_copyFrom_13 : decode cX0_copyFrom 13 = .ok (.aaload, 1) := by decide +kernel
theorem dX0_copyFrom_14 : decode cX0_copyFrom 14 = .ok (.iconst 0, 1) := by decide +kernel
theorem dX0_copyFrom_15 : decode cX0_copyFrom 15 = .ok (.aload_n 0, 1) := by decide +kernel
theorem dX0_copyFrom_16 : decode cX0_copyFrom 16 = .ok (.getfield 13, 3) := by decide +kernel
theorem dX0_copyFrom_19 : decode cX0_copyFrom 19 = .ok (.iload_n 2, 1) := by decide +kernel
theorem dX0_copyFrom_20 : decode cX0_copyFrom 20 = .ok (.aaload, 1) := by decide +kernel
theorem dX0_copyFrom_21 : decode cX0_copyFrom 21 = .ok (.iconst 0, 1) := by decide +kernel
theorem dX0_copyFrom_22 : decode cX0_copyFrom 22 = .ok (.bipush 40, 2) := by decide +kernel
theorem dX0_copyFrom_24 : decode cX0_copyFrom 24 = .ok (.invokestatic 28, 3) := by decide +kernel
theorem dX0_copyFrom_27 : decode cX0_copyFrom 27 = .ok (.iinc 2 1, 3) := by decide +kernel
theorem dX0_copyFrom_30 : decode cX0_copyFrom 30 = .ok (.goto (-28), 3) := by decide +kernel
theorem dX0_copyFrom_33 : decode cX0_copyFrom 33 = .ok (.aload_n 1, 1) := by decide +kernel
theorem dX0_copyFrom_34 : decode cX0_copyFrom 34 = .ok (.getfield 16, 3) := by decide +kernel
theorem dX0_copyFrom_37 : decode cX0_copyFrom 37 = .ok (.iconst 0, 1) := by decide +kernel
theorem dX0_copyFrom_38 : decode cX0_copyFrom 38 = .ok (.aload_n 0, 1) := by decide +kernel
theorem dX0_copyFrom_39 : decode cX0_copyFrom 39 = .ok (.getfield 16, 3) := by decide +kernel
theorem dX0_copyFrom_42 : decode cX0_copyFrom 42 = .ok (.iconst 0, 1) := by decide +kernel
theorem dX0_copyFrom_43 : decode cX0_copyFrom 43 = .ok (.bipush 6, 2) := by decide +kernel
theorem dX0_copyFrom_45 : decode cX0_copyFrom 45 = .ok (.invokestatic 28, 3) := by decide +kernel
theorem dX0_copyFrom_48 : decode cX0_copyFrom 48 = .ok (.return_, 1) := by decide +kernel
theorem dX1_init_0 : decode cX1_init 0 = .ok (.aload_n 0, 1) := by decide +kernel
theorem dX1_init_1 : decode cX1_init 1 = .ok (.invokespecial 1, 3) := by decide +kernel
theorem dX1_init_4 : decode cX1_init 4 = .ok (.aload_n 0, 1) := by decide +kernel
theorem dX1_init_5 : decode cX1_init 5 = .ok (.iconst 5, 1) := by decide +kernel
theorem dX1_init_6 : decode cX1_init 6 = .ok (.anewarray 9, 3) := by decide +kernel
theorem dX1_init_9 : decode cX1_init 9 = .ok (.putfield 11, 3) := by decide +kernel
theorem dX1_init_12 : decode cX1_init 12 = .ok (.aload_n 0, 1) := by decide +kernel
theorem dX1_init_13 : decode cX1_init 13 = .ok (.iconst 0, 1) := by decide +kernel
theorem dX1_init_14 : decode cX1_init 14 = .ok (.putfield 15, 3) := by decide +kernel
theorem dX1_init_17 : decode cX1_init 17 = .ok (.iconst 0, 1) := by decide +kernel
theorem dX1_init_18 : decode cX1_init 18 = .ok (.istore_n 1, 1) := by decide +kernel
theorem dX1_init_19 : decode cX1_init 19 = .ok (.iload_n 1, 1) := by decide +kernel
theorem dX1_init_20 : decode cX1_init 20 = .ok (.iconst 5, 1) := by decide +kernel
theorem dX1_init_21 : decode cX1_init 21 = .ok (.if_icmp .ge 22, 3) := by decide +kernel
theorem dX1_init_24 : decode cX1_init 24 = .ok (.aload_n 0, 1) := by decide +kernel
theorem dX1_init_25 : decode cX1_init 25 = .ok (.getfield 11, 3) := by decide +kernel
theorem dX1_init_28 : decode cX1_init 28 = .ok (.iload_n 1, 1) := by decide +kernel
theorem dX1_init_29 : decode cX1_init 29 = .ok (.new 9, 3) := by decide +kernel
theorem dX1_init_32 : decode cX1_init 32 = .ok (.dup, 1) := by decide +kernel
theorem dX1_init_33 : decode cX1_init 33 = .ok (.invokespecial 19, 3) := by decide +kernel
theorem dX1_init_36 : decode cX1_init 36 = .ok (.aastore, 1) := by decide +kernel
theorem dX1_init_37 : decode cX1_init 37 = .ok (.iinc 1 1, 3) := by decide +kernel
theorem dX1_init_40 : decode cX1_init 40 = .ok (.goto (-21), 3) := by decide +kernel
theorem dX1_init_43 : decode cX1_init 43 = .ok (.return_, 1) := by decide +kernel
theorem dX1_size_0 : decode cX1_size 0 = .ok (.aload_n 0, 1) := by decide +kernel
theorem dX1_size_1 : decode cX1_size 1 = .ok (.getfield 15, 3) := by decide +kernel
theorem dX1_size_4 : decode cX1_size 4 = .ok (.ireturn, 1) := by decide +kernel
theorem dX1_keep_0 : decode cX1_keep 0 = .ok (.aload_n 0, 1) := by decide +kernel
theorem dX1_keep_1 : decode cX1_keep 1 = .ok (.getfield 15, 3) := by decide +kernel
theorem dX1_keep_4 : decode cX1_keep 4 = .ok (.iconst 5, 1) := by decide +kernel
theorem dX1_keep_5 : decode cX1_keep 5 = .ok (.if_icmp .lt 7, 3) := by decide +kernel
theorem dX1_keep_8 : decode cX1_keep 8 = .ok (.aload_n 0, 1) := by decide +kernel
theorem dX1_keep_9 : decode cX1_keep 9 = .ok (.invokevirtual 20, 3) := by decide +kernel
theorem dX1_keep_12 : decode cX1_keep 12 = .ok (.aload_n 0, 1) := by decide +kernel
theorem dX1_keep_13 : decode cX1_keep 13 = .ok (.getfield 11, 3) := by decide +kernel
theorem dX1_keep_16 : decode cX1_keep 16 = .ok (.aload_n 0, 1) := by decide +kernel
theorem dX1_keep_17 : decode cX1_keep 17 = .ok (.getfield 15, 3) := by decide +kernel
theorem dX1_keep_20 : decode cX1_keep 20 = .ok (.aaload, 1) := by decide +kernel
theorem dX1_keep_21 : decode cX1_keep 21 = .ok (.aload_n 1, 1) := by decide +kernel
theorem dX1_keep_22 : decode cX1_keep 22 = .ok (.invokevirtual 23, 3) := by decide +kernel
theorem dX1_keep_25 : decode cX1_keep 25 = .ok (.aload_n 0, 1) := by decide +kernel
theorem dX1_keep_26 : decode cX1_keep 26 = .ok (.dup, 1) := by decide +kernel
theorem dX1_keep_27 : decode cX1_keep 27 = .ok (.getfield 15, 3) := by decide +kernel
theorem dX1_keep_30 : decode cX1_keep 30 = .ok (.iconst 1, 1) := by decide +kernel
theorem dX1_keep_31 : decode cX1_keep 31 = .ok (.iadd, 1) := by decide +kernel
theorem dX1_keep_32 : decode cX1_keep 32 = .ok (.putfield 15, 3) := by decide +kernel
theorem dX1_keep_35 : decode cX1_keep 35 = .ok (.return_, 1) := by decide +kernel
theorem dX1_dropOldest_0 : decode cX1_dropOldest 0 = .ok (.aload_n 0, 1) := by decide +kernel
theorem dX1_dropOldest_1 : decode cX1_dropOldest 1 = .ok (.getfield 11, 3) := by decide +kernel
theorem dX1_dropOldest_4 : decode cX1_dropOldest 4 = .ok (.iconst 0, 1) := by decide +kernel
theorem dX1_dropOldest_5 : decode cX1_dropOldest 5 = .ok (.aaload, 1) := by decide +kernel
theorem dX1_dropOldest_6 : decode cX1_dropOldest 6 = .ok (.astore_n 1, 1) := by decide +kernel
theorem dX1_dropOldest_7 : decode cX1_dropOldest 7 = .ok (.iconst 1, 1) := by decide +kernel
theorem dX1_dropOldest_8 : decode cX1_dropOldest 8 = .ok (.istore_n 2, 1) := by decide +kernel
theorem dX1_dropOldest_9 : decode cX1_dropOldest 9 = .ok (.iload_n 2, 1) := by decide +kernel
theorem dX1_dropOldest_10 : decode cX1_dropOldest 10 = .ok (.iconst 5, 1) := by decide +kernel
theorem dX1_dropOldest_11 : decode cX1_dropOldest 11 = .ok (.if_icmp .ge 23, 3) := by decide +kernel
theorem dX1_dropOldest_14 : decode cX1_dropOldest 14 = .ok (.aload_n 0, 1) := by decide +kernel
theorem dX1_dropOldest_15 : decode cX1_dropOldest 15 = .ok (.getfield 11, 3) := by decide +kernel
theorem dX1_dropOldest_18 : decode cX1_dropOldest 18 = .ok (.iload_n 2, 1) := by decide +kernel
theorem dX1_dropOldest_19 : decode cX1_dropOldest 19 = .ok (.iconst 1, 1) := by decide +kernel
theorem dX1_dropOldest_20 : decode cX1_dropOldest 20 = .ok (.isub, 1) := by decide +kernel
theorem dX1_dropOldest_21 : decode cX1_dropOldest 21 = .ok (.aload_n 0, 1) := by decide +kernel
theorem dX1_dropOldest_22 : decode cX1_dropOldest 22 = .ok (.getfield 11, 3) := by decide +kernel
theorem dX1_dropOldest_25 : decode cX1_dropOldest 25 = .ok (.iload_n 2, 1) := by decide +kernel
theorem dX1_dropOldest_26 : decode cX1_dropOldest 26 = .ok (.aaload, 1) := by decide +kernel
theorem dX1_dropOldest_27 : decode cX1_dropOldest 27 = .ok (.aastore, 1) := by decide +kernel
theorem dX1_dropOldest_28 : decode cX1_dropOldest 28 = .ok (.iinc 2 1, 3) := by decide +kernel
theorem dX1_dropOldest_31 : decode cX1_dropOldest 31 = .ok (.goto (-22), 3) := by decide +kernel
theorem dX1_dropOldest_34 : decode cX1_dropOldest 34 = .ok (.aload_n 0, 1) := by decide +kernel
theorem dX1_dropOldest_35 : decode cX1_dropOldest 35 = .ok (.getfield 11, 3) := by decide +kernel
theorem dX1_dropOldest_38 : decode cX1_dropOldest 38 = .ok (.iconst 4, 1) := by decide +kernel
theorem dX1_dropOldest_39 : decode cX1_dropOldest 39 = .ok (.aload_n 1, 1) := by decide +kernel
theorem dX1_dropOldest_40 : decode cX1_dropOldest 40 = .ok (.aastore, 1) := by decide +kernel
theorem dX1_dropOldest_41 : decode cX1_dropOldest 41 = .ok (.aload_n 0, 1) := by decide +kernel
theorem dX1_dropOldest_42 : decode cX1_dropOldest 42 = .ok (.dup, 1) := by decide +kernel
theorem dX1_dropOldest_43 : decode cX1_dropOldest 43 = .ok (.getfield 15, 3) := by decide +kernel
theorem dX1_dropOldest_46 : decode cX1_dropOldest 46 = .ok (.iconst 1, 1) := by decide +kernel
theorem dX1_dropOldest_47 : decode cX1_dropOldest 47 = .ok (.isub, 1) := by decide +kernel
theorem dX1_dropOldest_48 : decode cX1_dropOldest 48 = .ok (.putfield 15, 3) := by decide +kernel
theorem dX1_dropOldest_51 : decode cX1_dropOldest 51 = .ok (.return_, 1) := by decide +kernel
theorem dX1_giveBack_0 : decode cX1_giveBack 0 = .ok (.aload_n 0, 1) := by decide +kernel
theorem dX1_giveBack_1 : decode cX1_giveBack 1 = .ok (.getfield 15, 3) := by decide +kernel
theorem dX1_giveBack_4 : decode cX1_giveBack 4 = .ok (.ifCond .le 26, 3) := by decide +kernel
theorem dX1_giveBack_7 : decode cX1_giveBack 7 = .ok (.aload_n 0, 1) := by decide +kernel
theorem dX1_giveBack_8 : decode cX1_giveBack 8 = .ok (.dup, 1) := by decide +kernel
theorem dX1_giveBack_9 : decode cX1_giveBack 9 = .ok (.getfield 15, 3) := by decide +kernel
theorem dX1_giveBack_12 : decode cX1_giveBack 12 = .ok (.iconst 1, 1) := by decide +kernel
theorem dX1_giveBack_13 : decode cX1_giveBack 13 = .ok (.isub, 1) := by decide +kernel
theorem dX1_giveBack_14 : decode cX1_giveBack 14 = .ok (.putfield 15, 3) := by decide +kernel
theorem dX1_giveBack_17 : decode cX1_giveBack 17 = .ok (.aload_n 1, 1) := by decide +kernel
theorem dX1_giveBack_18 : decode cX1_giveBack 18 = .ok (.aload_n 0, 1) := by decide +kernel
theorem dX1_giveBack_19 : decode cX1_giveBack 19 = .ok (.getfield 11, 3) := by decide +kernel
theorem dX1_giveBack_22 : decode cX1_giveBack 22 = .ok (.aload_n 0, 1) := by decide +kernel
theorem dX1_giveBack_23 : decode cX1_giveBack 23 = .ok (.getfield 15, 3) := by decide +kernel
theorem dX1_giveBack_26 : decode cX1_giveBack 26 = .ok (.aaload, 1) := by decide +kernel
theorem dX1_giveBack_27 : decode cX1_giveBack 27 = .ok (.invokevirtual 23, 3) := by decide +kernel
theorem dX1_giveBack_30 : decode cX1_giveBack 30 = .ok (.return_, 1) := by decide +kernel
theorem dX2_init_0 : decode cX2_init 0 = .ok (.aload_n 0, 1) := by decide +kernel
theorem dX2_init_1 : decode cX2_init 1 = .ok (.invokespecial 3, 3) := by decide +kernel
theorem dX2_init_4 : decode cX2_init 4 = .ok (.aload_n 0, 1) := by decide +kernel
theorem dX2_init_5 : decode cX2_init 5 = .ok (.new 9, 3) := by decide +kernel
theorem dX2_init_8 : decode cX2_init 8 = .ok (.dup, 1) := by decide +kernel
theorem dX2_init_9 : decode cX2_init 9 = .ok (.invokespecial 11, 3) := by decide +kernel
theorem dX2_init_12 : decode cX2_init 12 = .ok (.putfield 12, 3) := by decide +kernel
theorem dX2_init_15 : decode cX2_init 15 = .ok (.aload_n 0, 1) := by decide +kernel
theorem dX2_init_16 : decode cX2_init 16 = .ok (.new 18, 3) := by decide +kernel
theorem dX2_init_19 : decode cX2_init 19 = .ok (.dup, 1) := by decide +kernel
theorem dX2_init_20 : decode cX2_init 20 = .ok (.invokespecial 20, 3) := by decide +kernel
theorem dX2_init_23 : decode cX2_init 23 = .ok (.putfield 21, 3) := by decide +kernel
theorem dX2_init_26 : decode cX2_init 26 = .ok (.aload_n 0, 1) := by decide +kernel
theorem dX2_init_27 : decode cX2_init 27 = .ok (.iconst 4, 1) := by decide +kernel
theorem dX2_init_28 : decode cX2_init 28 = .ok (.newarray .int, 2) := by decide +kernel
theorem dX2_init_30 : decode cX2_init 30 = .ok (.putfield 27, 3) := by decide +kernel
theorem dX2_init_33 : decode cX2_init 33 = .ok (.aload_n 0, 1) := by decide +kernel
theorem dX2_init_34 : decode cX2_init 34 = .ok (.iconst 0, 1) := by decide +kernel
theorem dX2_init_35 : decode cX2_init 35 = .ok (.putfield 31, 3) := by decide +kernel
theorem dX2_init_38 : decode cX2_init 38 = .ok (.aload_n 0, 1) := by decide +kernel
theorem dX2_init_39 : decode cX2_init 39 = .ok (.iconst 0, 1) := by decide +kernel
theorem dX2_init_40 : decode cX2_init 40 = .ok (.putfield 35, 3) := by decide +kernel
theorem dX2_init_43 : decode cX2_init 43 = .ok (.return_, 1) := by decide +kernel
theorem dX3_init_0 : decode cX3_init 0 = .ok (.aload_n 0, 1) := by decide +kernel
theorem dX3_init_1 : decode cX3_init 1 = .ok (.invokespecial 7, 3) := by decide +kernel
theorem dX3_init_4 : decode cX3_init 4 = .ok (.aload_n 0, 1) := by decide +kernel
theorem dX3_init_5 : decode cX3_init 5 = .ok (.bipush 6, 2) := by decide +kernel
theorem dX3_init_7 : decode cX3_init 7 = .ok (.bipush 40, 2) := by decide +kernel
theorem dX3_init_9 : decode cX3_init 9 = .ok (.multianewarray 13 2, 4) := by decide +kernel
theorem dX3_init_13 : decode cX3_init 13 = .ok (.putfield 15, 3) := by decide +kernel
theorem dX3_init_16 : decode cX3_init 16 = .ok (.aload_n 0, 1) := by decide +kernel
theorem dX3_init_17 : decode cX3_init 17 = .ok (.bipush 6, 2) := by decide +kernel
theorem dX3_init_19 : decode cX3_init 19 = .ok (.bipush 40, 2) := by decide +kernel
theorem dX3_init_21 : decode cX3_init 21 = .ok (.multianewarray 13 2, 4) := by decide +kernel
theorem dX3_init_25 : decode cX3_init 25 = .ok (.putfield 20, 3) := by decide +kernel
theorem dX3_init_28 : decode cX3_init 28 = .ok (.aload_n 0, 1) := by decide +kernel
theorem dX3_init_29 : decode cX3_init 29 = .ok (.bipush 13, 2) := by decide +kernel
theorem dX3_init_31 : decode cX3_init 31 = .ok (.bipush 6, 2) := by decide +kernel
theorem dX3_init_33 : decode cX3_init 33 = .ok (.multianewarray 13 2, 4) := by decide +kernel
theorem dX3_init_37 : decode cX3_init 37 = .ok (.putfield 23, 3) := by decide +kernel
theorem dX3_init_40 : decode cX3_init 40 = .ok (.aload_n 0, 1) := by decide +kernel
theorem dX3_init_41 : decode cX3_init 41 = .ok (.bipush 13, 2) := by decide +kernel
theorem dX3_init_43 : decode cX3_init 43 = .ok (.newarray .int, 2) := by decide +kernel
theorem dX3_init_45 : decode cX3_init 45 = .ok (.putfield 26, 3) := by decide +kernel
theorem dX3_init_48 : decode cX3_init 48 = .ok (.aload_n 0, 1) := by decide +kernel
theorem dX3_init_49 : decode cX3_init 49 = .ok (.bipush 78, 2) := by decide +kernel
theorem dX3_init_51 : decode cX3_init 51 = .ok (.newarray .int, 2) := by decide +kernel
theorem dX3_init_53 : decode cX3_init 53 = .ok (.putfield 30, 3) := by decide +kernel
theorem dX3_init_56 : decode cX3_init 56 = .ok (.aload_n 0, 1) := by decide +kernel
theorem dX3_init_57 : decode cX3_init 57 = .ok (.bipush 78, 2) := by decide +kernel
theorem dX3_init_59 : decode cX3_init 59 = .ok (.newarray .int, 2) := by decide +kernel
theorem dX3_init_61 : decode cX3_init 61 = .ok (.putfield 33, 3) := by decide +kernel
theorem dX3_init_64 : decode cX3_init 64 = .ok (.aload_n 0, 1) := by decide +kernel
theorem dX3_init_65 : decode cX3_init 65 = .ok (.bipush 78, 2) := by decide +kernel
theorem dX3_init_67 : decode cX3_init 67 = .ok (.newarray .int, 2) := by decide +kernel
theorem dX3_init_69 : decode cX3_init 69 = .ok (.putfield 36, 3) := by decide +kernel
theorem dX3_init_72 : decode cX3_init 72 = .ok (.aload_n 0, 1) := by decide +kernel
theorem dX3_init_73 : decode cX3_init 73 = .ok (.iconst 0, 1) := by decide +kernel
theorem dX3_init_74 : decode cX3_init 74 = .ok (.putfield 39, 3) := by decide +kernel
theorem dX3_init_77 : decode cX3_init 77 = .ok (.aload_n 0, 1) := by decide +kernel
theorem dX3_init_78 : decode cX3_init 78 = .ok (.iconst 0, 1) := by decide +kernel
theorem dX3_init_79 : decode cX3_init 79 = .ok (.putfield 43, 3) := by decide +kernel
theorem dX3_init_82 : decode cX3_init 82 = .ok (.return_, 1) := by decide +kernel
theorem dX3_read_0 : decode cX3_read 0 = .ok (.aload_n 0, 1) := by decide +kernel
theorem dX3_read_1 : decode cX3_read 1 = .ok (.invokevirtual 46, 3) := by decide +kernel
theorem dX3_read_4 : decode cX3_read 4 = .ok (.iconst 0, 1) := by decide +kernel
theorem dX3_read_5 : decode cX3_read 5 = .ok (.istore_n 2, 1) := by decide +kernel
theorem dX3_read_6 : decode cX3_read 6 = .ok (.iload_n 2, 1) := by decide +kernel
theorem dX3_read_7 : decode cX3_read 7 = .ok (.bipush 6, 2) := by decide +kernel
theorem dX3_read_9 : decode cX3_read 9 = .ok (.if_icmp .ge 15, 3) := by decide +kernel
theorem dX3_read_12 : decode cX3_read 12 = .ok (.aload_n 0, 1) := by decide +kernel
theorem dX3_read_13 : decode cX3_read 13 = .ok (.aload_n 1, 1) := by decide +kernel
theorem dX3_read_14 : decode cX3_read 14 = .ok (.iload_n 2, 1) := by decide +kernel
theorem dX3_read_15 : decode cX3_read 15 = .ok (.invokevirtual 49, 3) := by decide +kernel
theorem dX3_read_18 : decode cX3_read 18 = .ok (.iinc 2 1, 3) := by decide +kernel
theorem dX3_read_21 : decode cX3_read 21 = .ok (.goto (-15), 3) := by decide +kernel
theorem dX3_read_24 : decode cX3_read 24 = .ok (.return_, 1) := by decide +kernel
theorem dX3_forget_0 : decode cX3_forget 0 = .ok (.iconst 0, 1) := by decide +kernel
theorem dX3_forget_1 : decode cX3_forget 1 = .ok (.istore_n 1, 1) := by decide +kernel
theorem dX3_forget_2 : decode cX3_forget 2 = .ok (.iload_n 1, 1) := by decide +kernel
theorem dX3_forget_3 : decode cX3_forget 3 = .ok (.bipush 13, 2) := by decide +kernel
theorem dX3_forget_5 : decode cX3_forget 5 = .ok (.if_icmp .ge 40, 3) := by decide +kernel
theorem dX3_forget_8 : decode cX3_forget 8 = .ok (.aload_n 0, 1) := by decide +kernel
theorem dX3_forget_9 : decode cX3_forget 9 = .ok (.getfield 26, 3) := by decide +kernel
theorem dX3_forget_12 : decode cX3_forget 12 = .ok (.iload_n 1, 1) := by decide +kernel
theorem dX3_forget_13 : decode cX3_forget 13 = .ok (.iconst 0, 1) := by decide +kernel
theorem dX3_forget_14 : decode cX3_forget 14 = .ok (.iastore, 1) := by decide +kernel
theorem dX3_forget_15 : decode cX3_forget 15 = .ok (.iconst 0, 1) := by decide +kernel
theorem dX3_forget_16 : decode cX3_forget 16 = .ok (.istore_n 2, 1) := by decide +kernel
theorem dX3_forget_17 : decode cX3_forget 17 = .ok (.iload_n 2, 1) := by decide +kernel
theorem dX3_forget_18 : decode cX3_forget 18 = .ok (.bipush 6, 2) := by decide +kernel
theorem dX3_forget_20 : decode cX3_forget 20 = .ok (.if_icmp .ge 19, 3) := by decide +kernel
theorem dX3_forget_23 : decode cX3_forget 23 = .ok (.aload_n 0, 1) := by decide +kernel
theorem dX3_forget_24 : decode cX3_forget 24 = .ok (.getfield 23, 3) := by decide +kernel
theorem dX3_forget_27 : decode cX3_forget 27 = .ok (.iload_n 1, 1) := by decide +kernel
theorem dX3_forget_28 : decode cX3_forget 28 = .ok (.aaload, 1) := by decide +kernel
theorem dX3_forget_29 : decode cX3_forget 29 = .ok (.iload_n 2, 1) := by decide +kernel
theorem dX3_forget_30 : decode cX3_forget 30 = .ok (.bipush (-99), 2) := by decide +kernel
theorem dX3_forget_32 : decode cX3_forget 32 = .ok (.iastore, 1) := by decide +kernel
theorem dX3_forget_33 : decode cX3_forget 33 = .ok (.iinc 2 1, 3) := by decide +kernel
theorem dX3_forget_36 : decode cX3_forget 36 = .ok (.goto (-19), 3) := by decide +kernel
theorem dX3_forget_39 : decode cX3_forget 39 = .ok (.iinc 1 1, 3) := by decide +kernel
theorem dX3_forget_42 : decode cX3_forget 42 = .ok (.goto (-40), 3) := by decide +kernel
theorem dX3_forget_45 : decode cX3_forget 45 = .ok (.aload_n 0, 1) := by decide +kernel
theorem dX3_forget_46 : decode cX3_forget 46 = .ok (.iconst 0, 1) := by decide +kernel
theorem dX3_forget_47 : decode cX3_forget 47 = .ok (.putfield 39, 3) := by decide +kernel
theorem dX3_forget_50 : decode cX3_forget 50 = .ok (.aload_n 0, 1) := by decide +kernel
theorem dX3_forget_51 : decode cX3_forget 51 = .ok (.iconst 0, 1) := by decide +kernel
theorem dX3_forget_52 : decode cX3_forget 52 = .ok (.putfield 43, 3) := by decide +kernel
theorem dX3_forget_55 : decode cX3_forget 55 = .ok (.return_, 1) := by decide +kernel
theorem dX3_readChapter_0 : decode cX3_readChapter 0 = .ok (.bipush (-99), 2) := by decide +kernel
theorem dX3_readChapter_2 : decode cX3_readChapter 2 = .ok (.istore_n 3, 1) := by decide +kernel
theorem dX3_readChapter_3 : decode cX3_readChapter 3 = .ok (.iconst 0, 1) := by decide +kernel
theorem dX3_readChapter_4 : decode cX3_readChapter 4 = .ok (.istore 4, 2) := by decide +kernel
theorem dX3_readChapter_6 : decode cX3_readChapter 6 = .ok (.iconst 0, 1) := by decide +kernel
theorem dX3_readChapter_7 : decode cX3_readChapter 7 = .ok (.istore 5, 2) := by decide +kernel
theorem dX3_readChapter_9 : decode cX3_readChapter 9 = .ok (.iconst 0, 1) := by decide +kernel
theorem dX3_readChapter_10 : decode cX3_readChapter 10 = .ok (.istore 6, 2) := by decide +kernel
theorem dX3_readChapter_12 : decode cX3_readChapter 12 = .ok (.iload 6, 2) := by decide +kernel
theorem dX3_readChapter_14 : decode cX3_readChapter 14 = .ok (.aload_n 1, 1) := by decide +kernel
theorem dX3_readChapter_15 : decode cX3_readChapter 15 = .ok (.getfield 53, 3) := by decide +kernel
theorem dX3_readChapter_18 : decode cX3_readChapter 18 = .ok (.iload_n 2, 1) := by decide +kernel
theorem dX3_readChapter_19 : decode cX3_readChapter 19 = .ok (.invokevirtual 59, 3) := by decide +kernel
theorem dX3_readChapter_22 : decode cX3_readChapter 22 = .ok (.if_icmp .ge 85, 3) := by decide +kernel
theorem dX3_readChapter_25 : decode cX3_readChapter 25 = .ok (.iload 6, 2) := by decide +kernel
theorem dX3_readChapter_27 : decode cX3_readChapter 27 = .ok (.iload 5, 2) := by decide +kernel
theorem dX3_readChapter_29 : decode cX3_readChapter 29 = .ok (.if_icmp .lt 37, 3) := by decide +kernel
theorem dX3_readChapter_32 : decode cX3_readChapter 32 = .ok (.aload_n 1, 1) := by decide +kernel
theorem dX3_readChapter_33 : decode cX3_readChapter 33 = .ok (.iload_n 2, 1) := by decide +kernel
theorem dX3_readChapter_34 : decode cX3_readChapter 34 = .ok (.iload 6, 2) := by decide +kernel
theorem dX3_readChapter_36 : decode cX3_readChapter 36 = .ok (.invokevirtual 63, 3) := by decide +kernel
theorem dX3_readChapter_39 : decode cX3_readChapter 39 = .ok (.istore_n 3, 1) := by decide +kernel
theorem dX3_readChapter_40 : decode cX3_readChapter 40 = .ok (.iload 6, 2) := by decide +kernel
theorem dX3_readChapter_42 : decode cX3_readChapter 42 = .ok (.istore 4, 2) := by decide +kernel
theorem dX3_readChapter_44 : decode cX3_readChapter 44 = .ok (.iload 6, 2) := by decide +kernel
theorem dX3_readChapter_46 : decode cX3_readChapter 46 = .ok (.aload_n 1, 1) := by decide +kernel
theorem dX3_readChapter_47 : decode cX3_readChapter 47 = .ok (.getfield 67, 3) := by decide +kernel
theorem dX3_readChapter_50 : decode cX3_readChapter 50 = .ok (.iload_n 3, 1) := by decide +kernel
theorem dX3_readChapter_51 : decode cX3_readChapter 51 = .ok (.invokevirtual 70, 3) := by decide +kernel
theorem dX3_readChapter_54 : decode cX3_readChapter 54 = .ok (.iadd, 1) := by decide +kernel
theorem dX3_readChapter_55 : decode cX3_readChapter 55 = .ok (.istore 5, 2) := by decide +kernel
theorem dX3_readChapter_57 : decode cX3_readChapter 57 = .ok (.aload_n 0, 1) := by decide +kernel
theorem dX3_readChapter_58 : decode cX3_readChapter 58 = .ok (.aload_n 1, 1) := by decide +kernel
theorem dX3_readChapter_59 : decode cX3_readChapter 59 = .ok (.iload_n 3, 1) := by decide +kernel
theorem dX3_readChapter_60 : decode cX3_readChapter 60 = .ok (.iload_n 2, 1) := by decide +kernel
theorem dX3_readChapter_61 : decode cX3_readChapter 61 = .ok (.iload 6, 2) := by decide +kernel
theorem dX3_readChapter_63 : decode cX3_readChapter 63 = .ok (.invokevirtual 71, 3) := by decide +kernel
theorem dX3_readChapter_66 : decode cX3_readChapter 66 = .ok (.aload_n 0, 1) := by decide +kernel
theorem dX3_readChapter_67 : decode cX3_readChapter 67 = .ok (.getfield 15, 3) := by decide +kernel
theorem dX3_readChapter_70 : decode cX3_readChapter 70 = .ok (.iload_n 2, 1) := by decide +kernel
theorem dX3_readChapter_71 : decode cX3_readChapter 71 = .ok (.aaload, 1) := by decide +kernel
theorem dX3_readChapter_72 : decode cX3_readChapter 72 = .ok (.iload 6, 2) := by decide +kernel
theorem dX3_readChapter_74 : decode cX3_readChapter 74 = .ok (.iload_n 3, 1) := by decide +kernel
theorem dX3_readChapter_75 : decode cX3_readChapter 75 = .ok (.iastore, 1) := by decide +kernel
theorem dX3_readChapter_76 : decode cX3_readChapter 76 = .ok (.aload_n 0, 1) := by decide +kernel
theorem dX3_readChapter_77 : decode cX3_readChapter 77 = .ok (.getfield 20, 3) := by decide +kernel
theorem dX3_readChapter_80 : decode cX3_readChapter 80 = .ok (.iload_n 2, 1) := by decide +kernel
theorem dX3_readChapter_81 : decode cX3_readChapter 81 = .ok (.aaload, 1) := by decide +kernel
theorem dX3_readChapter_82 : decode cX3_readChapter 82 = .ok (.iload 6, 2) := by decide +kernel
theorem dX3_readChapter_84 : decode cX3_readChapter 84 = .ok (.iload_n 3, 1) := by decide +kernel
theorem dX3_readChapter_85 : decode cX3_readChapter 85 = .ok (.bipush (-99), 2) := by decide +kernel
theorem dX3_readChapter_87 : decode cX3_readChapter 87 = .ok (.if_icmp .ne 8, 3) := by decide +kernel
theorem dX3_readChapter_90 : decode cX3_readChapter 90 = .ok (.bipush (-99), 2) := by decide +kernel
theorem dX3_readChapter_92 : decode cX3_readChapter 92 = .ok (.goto 8, 3) := by decide +kernel
theorem dX3_readChapter_95 : decode cX3_readChapter 95 = .ok (.iload 6, 2) := by decide +kernel
theorem dX3_readChapter_97 : decode cX3_readChapter 97 = .ok (.iload 4, 2) := by decide +kernel
theorem dX3_readChapter_99 : decode cX3_readChapter 99 = .ok (.isub, 1) := by decide +kernel
theorem dX3_readChapter_100 : decode cX3_readChapter 100 = .ok (.iastore, 1) := by decide +kernel
theorem dX3_readChapter_101 : decode cX3_readChapter 101 = .ok (.iinc 6 1, 3) := by decide +kernel
theorem dX3_readChapter_104 : decode cX3_readChapter 104 = .ok (.goto (-92), 3) := by decide +kernel
theorem dX3_readChapter_107 : decode cX3_readChapter 107 = .ok (.return_, 1) := by decide +kernel
theorem dX3_note_0 : decode cX3_note 0 = .ok (.aload_n 1, 1) := by decide +kernel
theorem dX3_note_1 : decode cX3_note 1 = .ok (.getfield 67, 3) := by decide +kernel
theorem dX3_note_4 : decode cX3_note 4 = .ok (.iload_n 2, 1) := by decide +kernel
theorem dX3_note_5 : decode cX3_note 5 = .ok (.invokevirtual 75, 3) := by decide +kernel
theorem dX3_note_8 : decode cX3_note 8 = .ok (.ifCond .ne 4, 3) := by decide +kernel
theorem dX3_note_11 : decode cX3_note 11 = .ok (.return_, 1) := by decide +kernel
theorem dX3_note_12 : decode cX3_note 12 = .ok (.aload_n 0, 1) := by decide +kernel
theorem dX3_note_13 : decode cX3_note 13 = .ok (.getfield 26, 3) := by decide +kernel
theorem dX3_note_16 : decode cX3_note 16 = .ok (.iload_n 2, 1) := by decide +kernel
theorem dX3_note_17 : decode cX3_note 17 = .ok (.dup2, 1) := by decide +kernel
theorem dX3_note_18 : decode cX3_note 18 = .ok (.iaload, 1) := by decide +kernel
theorem dX3_note_19 : decode cX3_note 19 = .ok (.iconst 1, 1) := by decide +kernel
theorem dX3_note_20 : decode cX3_note 20 = .ok (.iadd, 1) := by decide +kernel
theorem dX3_note_21 : decode cX3_note 21 = .ok (.iastore, 1) := by decide +kernel
theorem dX3_note_22 : decode cX3_note 22 = .ok (.aload_n 0, 1) := by decide +kernel
theorem dX3_note_23 : decode cX3_note 23 = .ok (.dup, 1) := by decide +kernel
theorem dX3_note_24 : decode cX3_note 24 = .ok (.getfield 43, 3) := by decide +kernel
theorem dX3_note_27 : decode cX3_note 27 = .ok (.iconst 1, 1) := by decide +kernel
theorem dX3_note_28 : decode cX3_note 28 = .ok (.iadd, 1) := by decide +kernel
theorem dX3_note_29 : decode cX3_note 29 = .ok (.putfield 43, 3) := by decide +kernel
theorem dX3_note_32 : decode cX3_note 32 = .ok (.aload_n 0, 1) := by decide +kernel
theorem dX3_note_33 : decode cX3_note 33 = .ok (.getfield 23, 3) := by decide +kernel
theorem dX3_note_36 : decode cX3_note 36 = .ok (.iload_n 2, 1) := by decide +kernel
theorem dX3_note_37 : decode cX3_note 37 = .ok (.aaload, 1) := by decide +kernel
theorem dX3_note_38 : decode cX3_note 38 = .ok (.iload_n 3, 1) := by decide +kernel
theorem dX3_note_39 : decode cX3_note 39 = .ok (.iaload, 1) := by decide +kernel
theorem dX3_note_40 : decode cX3_note 40 = .ok (.bipush (-99), 2) := by decide +kernel
theorem dX3_note_42 : decode cX3_note 42 = .ok (.if_icmp .eq 4, 3) := by decide +kernel
theorem dX3_note_45 : decode cX3_note 45 = .ok (.return_, 1) := by decide +kernel
theorem dX3_note_46 : decode cX3_note 46 = .ok (.aload_n 0, 1) := by decide +kernel
theorem dX3_note_47 : decode cX3_note 47 = .ok (.getfield 23, 3) := by decide +kernel
theorem dX3_note_50 : decode cX3_note 50 = .ok (.iload_n 2, 1) := by decide +kernel
theorem dX3_note_51 : decode cX3_note 51 = .ok (.aaload, 1) := by decide +kernel
theorem dX3_note_52 : decode cX3_note 52 = .ok (.iload_n 3, 1) := by decide +kernel
theorem dX3_note_53 : decode cX3_note 53 = .ok (.iload 4, 2) := by decide +kernel
theorem dX3_note_55 : decode cX3_note 55 = .ok (.iastore, 1) := by decide +kernel
theorem dX3_note_56 : decode cX3_note 56 = .ok (.aload_n 1, 1) := by decide +kernel
theorem dX3_note_57 : decode cX3_note 57 = .ok (.getfield 67, 3) := by decide +kernel
theorem dX3_note_60 : decode cX3_note 60 = .ok (.iload_n 2, 1) := by decide +kernel
theorem dX3_note_61 : decode cX3_note 61 = .ok (.invokevirtual 79, 3) := by decide +kernel
theorem dX3_note_64 : decode cX3_note 64 = .ok (.ifCond .ne 53, 3) := by decide +kernel
theorem dX3_note_67 : decode cX3_note 67 = .ok (.aload_n 0, 1) := by decide +kernel
theorem dX3_note_68 : decode cX3_note 68 = .ok (.getfield 39, 3) := by decide +kernel
theorem dX3_note_71 : decode cX3_note 71 = .ok (.bipush 78, 2) := by decide +kernel
theorem dX3_note_73 : decode cX3_note 73 = .ok (.if_icmp .ge 44, 3) := by decide +kernel
theorem dX3_note_76 : decode cX3_note 76 = .ok (.aload_n 0, 1) := by decide +kernel
theorem dX3_note_77 : decode cX3_note 77 = .ok (.getfield 30, 3) := by decide +kernel
theorem dX3_note_80 : decode cX3_note 80 = .ok (.aload_n 0, 1) := by decide +kernel
theorem dX3_note_81 : decode cX3_note 81 = .ok (.getfield 39, 3) := by decide +kernel
theorem dX3_note_84 : decode cX3_note 84 = .ok (.iload_n 3, 1) := by decide +kernel
theorem dX3_note_85 : decode cX3_note 85 = .ok (.iastore, 1) := by decide +kernel
theorem dX3_note_86 : decode cX3_note 86 = .ok (.aload_n 0, 1) := by decide +kernel
theorem dX3_note_87 : decode cX3_note 87 = .ok (.getfield 33, 3) := by decide +kernel
theorem dX3_note_90 : decode cX3_note 90 = .ok (.aload_n 0, 1) := by decide +kernel
theorem dX3_note_91 : decode cX3_note 91 = .ok (.getfield 39, 3) := by decide +kernel
theorem dX3_note_94 : decode cX3_note 94 = .ok (.iload 4, 2) := by decide +kernel
theorem dX3_note_96 : decode cX3_note 96 = .ok (.iastore, 1) := by decide +kernel
theorem dX3_note_97 : decode cX3_note 97 = .ok (.aload_n 0, 1) := by decide +kernel
theorem dX3_note_98 : decode cX3_note 98 = .ok (.getfield 36, 3) := by decide +kernel
theorem dX3_note_101 : decode cX3_note 101 = .ok (.aload_n 0, 1) := by decide +kernel
theorem dX3_note_102 : decode cX3_note 102 = .ok (.getfield 39, 3) := by decide +kernel
theorem dX3_note_105 : decode cX3_note 105 = .ok (.iload_n 2, 1) := by decide +kernel
theorem dX3_note_106 : decode cX3_note 106 = .ok (.iastore, 1) := by decide +kernel
theorem dX3_note_107 : decode cX3_note 107 = .ok (.aload_n 0, 1) := by decide +kernel
theorem dX3_note_108 : decode cX3_note 108 = .ok (.dup, 1) := by decide +kernel
theorem dX3_note_109 : decode cX3_note 109 = .ok (.getfield 39, 3) := by decide +kernel
theorem dX3_note_112 : decode cX3_note 112 = .ok (.iconst 1, 1) := by decide +kernel
theorem dX3_note_113 : decode cX3_note 113 = .ok (.iadd, 1) := by decide +kernel
theorem dX3_note_114 : decode cX3_note 114 = .ok (.putfield 39, 3) := by decide +kernel
theorem dX3_note_117 : decode cX3_note 117 = .ok (.return_, 1) := by decide +kernel
theorem dX3_markCount_0 : decode cX3_markCount 0 = .ok (.aload_n 0, 1) := by decide +kernel
theorem dX3_markCount_1 : decode cX3_markCount 1 = .ok (.getfield 39, 3) := by decide +kernel
theorem dX3_markCount_4 : decode cX3_markCount 4 = .ok (.ireturn, 1) := by decide +kernel
theorem dX3_readingCount_0 : decode cX3_readingCount 0 = .ok (.aload_n 0, 1) := by decide +kernel
theorem dX3_readingCount_1 : decode cX3_readingCount 1 = .ok (.getfield 43, 3) := by decide +kernel
theorem dX3_readingCount_4 : decode cX3_readingCount 4 = .ok (.ireturn, 1) := by decide +kernel
theorem dX3_termOver_0 : decode cX3_termOver 0 = .ok (.iload_n 1, 1) := by decide +kernel
theorem dX3_termOver_1 : decode cX3_termOver 1 = .ok (.iload_n 2, 1) := by decide +kernel
theorem dX3_termOver_2 : decode cX3_termOver 2 = .ok (.invokestatic 82, 3) := by decide +kernel
theorem dX3_termOver_5 : decode cX3_termOver 5 = .ok (.ifCond .eq 14, 3) := by decide +kernel
theorem dX3_termOver_8 : decode cX3_termOver 8 = .ok (.aload_n 0, 1) := by decide +kernel
theorem dX3_termOver_9 : decode cX3_termOver 9 = .ok (.getfield 15, 3) := by decide +kernel
theorem dX3_termOver_12 : decode cX3_termOver 12 = .ok (.iload_n 1, 1) := by decide +kernel
theorem dX3_termOver_13 : decode cX3_termOver 13 = .ok (.aaload, 1) := by decide +kernel
theorem dX3_termOver_14 : decode cX3_termOver 14 = .ok (.iload_n 2, 1) := by decide +kernel
theorem dX3_termOver_15 : decode cX3_termOver 15 = .ok (.iaload, 1) := by decide +kernel
theorem dX3_termOver_16 : decode cX3_termOver 16 = .ok (.goto 5, 3) := by decide +kernel
theorem dX3_termOver_19 : decode cX3_termOver 19 = .ok (.bipush (-99), 2) := by decide +kernel
theorem dX3_termOver_21 : decode cX3_termOver 21 = .ok (.ireturn, 1) := by decide +kernel
theorem dX3_stepOver_0 : decode cX3_stepOver 0 = .ok (.iload_n 1, 1) := by decide +kernel
theorem dX3_stepOver_1 : decode cX3_stepOver 1 = .ok (.iload_n 2, 1) := by decide +kernel
theorem dX3_stepOver_2 : decode cX3_stepOver 2 = .ok (.invokestatic 82, 3) := by decide +kernel
theorem dX3_stepOver_5 : decode cX3_stepOver 5 = .ok (.ifCond .eq 14, 3) := by decide +kernel
theorem dX3_stepOver_8 : decode cX3_stepOver 8 = .ok (.aload_n 0, 1) := by decide +kernel
theorem dX3_stepOver_9 : decode cX3_stepOver 9 = .ok (.getfield 20, 3) := by decide +kernel
theorem dX3_stepOver_12 : decode cX3_stepOver 12 = .ok (.iload_n 1, 1) := by decide +kernel
theorem dX3_stepOver_13 : decode cX3_stepOver 13 = .ok (.aaload, 1) := by decide +kernel
theorem dX3_stepOver_14 : decode cX3_stepOver 14 = .ok (.iload_n 2, 1) := by decide +kernel
theorem dX3_stepOver_15 : decode cX3_stepOver 15 = .ok (.iaload, 1) := by decide +kernel
theorem dX3_stepOver_16 : decode cX3_stepOver 16 = .ok (.goto 5, 3) := by decide +kernel
theorem dX3_stepOver_19 : decode cX3_stepOver 19 = .ok (.bipush (-99), 2) := by decide +kernel
theorem dX3_stepOver_21 : decode cX3_stepOver 21 = .ok (.ireturn, 1) := by decide +kernel
theorem dX3_isInside_0 : decode cX3_isInside 0 = .ok (.iload_n 0, 1) := by decide +kernel
theorem dX3_isInside_1 : decode cX3_isInside 1 = .ok (.ifCond .lt 23, 3) := by decide +kernel
theorem dX3_isInside_4 : decode cX3_isInside 4 = .ok (.iload_n 0, 1) := by decide +kernel
theorem dX3_isInside_5 : decode cX3_isInside 5 = .ok (.bipush 6, 2) := by decide +kernel
theorem dX3_isInside_7 : decode cX3_isInside 7 = .ok (.if_icmp .ge 17, 3) := by decide +kernel
theorem dX3_isInside_10 : decode cX3_isInside 10 = .ok (.iload_n 1, 1) := by decide +kernel
theorem dX3_isInside_11 : decode cX3_isInside 11 = .ok (.ifCond .lt 13, 3) := by decide +kernel
theorem dX3_isInside_14 : decode cX3_isInside 14 = .ok (.iload_n 1, 1) := by decide +kernel
theorem dX3_isInside_15 : decode cX3_isInside 15 = .ok (.bipush 40, 2) := by decide +kernel
theorem dX3_isInside_17 : decode cX3_isInside 17 = .ok (.if_icmp .ge 7, 3) := by decide +kernel
theorem dX3_isInside_20 : decode cX3_isInside 20 = .ok (.iconst 1, 1) := by decide +kernel
theorem dX3_isInside_21 : decode cX3_isInside 21 = .ok (.goto 4, 3) := by decide +kernel
theorem dX3_isInside_24 : decode cX3_isInside 24 = .ok (.iconst 0, 1) := by decide +kernel
theorem dX3_isInside_25 : decode cX3_isInside 25 = .ok (.ireturn, 1) := by decide +kernel
theorem dX3_hasMark_0 : decode cX3_hasMark 0 = .ok (.iconst 0, 1) := by decide +kernel
theorem dX3_hasMark_1 : decode cX3_hasMark 1 = .ok (.istore_n 3, 1) := by decide +kernel
theorem dX3_hasMark_2 : decode cX3_hasMark 2 = .ok (.iload_n 3, 1) := by decide +kernel
theorem dX3_hasMark_3 : decode cX3_hasMark 3 = .ok (.aload_n 0, 1) := by decide +kernel
theorem dX3_hasMark_4 : decode cX3_hasMark 4 = .ok (.getfield 39, 3) := by decide +kernel
theorem dX3_hasMark_7 : decode cX3_hasMark 7 = .ok (.if_icmp .ge 31, 3) := by decide +kernel
theorem dX3_hasMark_10 : decode cX3_hasMark 10 = .ok (.aload_n 0, 1) := by decide +kernel
theorem dX3_hasMark_11 : decode cX3_hasMark 11 = .ok (.getfield 30, 3) := by decide +kernel
theorem dX3_hasMark_14 : decode cX3_hasMark 14 = .ok (.iload_n 3, 1) := by decide +kernel
theorem dX3_hasMark_15 : decode cX3_hasMark 15 = .ok (.iaload, 1) := by decide +kernel
theorem dX3_hasMark_16 : decode cX3_hasMark 16 = .ok (.iload_n 1, 1) := by decide +kernel
theorem dX3_hasMark_17 : decode cX3_hasMark 17 = .ok (.if_icmp .ne 15, 3) := by decide +kernel
theorem dX3_hasMark_20 : decode cX3_hasMark 20 = .ok (.aload_n 0, 1) := by decide +kernel
theorem dX3_hasMark_21 : decode cX3_hasMark 21 = .ok (.getfield 33, 3) := by decide +kernel
theorem dX3_hasMark_24 : decode cX3_hasMark 24 = .ok (.iload_n 3, 1) := by decide +kernel
theorem dX3_hasMark_25 : decode cX3_hasMark 25 = .ok (.iaload, 1) := by decide +kernel
theorem dX3_hasMark_26 : decode cX3_hasMark 26 = .ok (.iload_n 2, 1) := by decide +kernel
theorem dX3_hasMark_27 : decode cX3_hasMark 27 = .ok (.if_icmp .ne 5, 3) := by decide +kernel
theorem dX3_hasMark_30 : decode cX3_hasMark 30 = .ok (.iconst 1, 1) := by decide +kernel
theorem dX3_hasMark_31 : decode cX3_hasMark 31 = .ok (.ireturn, 1) := by decide +kernel
theorem dX3_hasMark_32 : decode cX3_hasMark 32 = .ok (.iinc 3 1, 3) := by decide +kernel
theorem dX3_hasMark_35 : decode cX3_hasMark 35 = .ok (.goto (-33), 3) := by decide +kernel
theorem dX3_hasMark_38 : decode cX3_hasMark 38 = .ok (.iconst 0, 1) := by decide +kernel
theorem dX3_hasMark_39 : decode cX3_hasMark 39 = .ok (.ireturn, 1) := by decide +kernel
theorem dX3_timesRead_0 : decode cX3_timesRead 0 = .ok (.iload_n 1, 1) := by decide +kernel
theorem dX3_timesRead_1 : decode cX3_timesRead 1 = .ok (.ifCond .lt 18, 3) := by decide +kernel
theorem dX3_timesRead_4 : decode cX3_timesRead 4 = .ok (.iload_n 1, 1) := by decide +kernel
theorem dX3_timesRead_5 : decode cX3_timesRead 5 = .ok (.bipush 13, 2) := by decide +kernel
theorem dX3_timesRead_7 : decode cX3_timesRead 7 = .ok (.if_icmp .ge 12, 3) := by decide +kernel
theorem dX3_timesRead_10 : decode cX3_timesRead 10 = .ok (.aload_n 0, 1) := by decide +kernel
theorem dX3_timesRead_11 : decode cX3_timesRead 11 = .ok (.getfield 26, 3) := by decide +kernel
theorem dX3_timesRead_14 : decode cX3_timesRead 14 = .ok (.iload_n 1, 1) := by decide +kernel
theorem dX3_timesRead_15 : decode cX3_timesRead 15 = .ok (.iaload, 1) := by decide +kernel
theorem dX3_timesRead_16 : decode cX3_timesRead 16 = .ok (.goto 4, 3) := by decide +kernel
theorem dX3_timesRead_19 : decode cX3_timesRead 19 = .ok (.iconst 0, 1) := by decide +kernel
theorem dX3_timesRead_20 : decode cX3_timesRead 20 = .ok (.ireturn, 1) := by decide +kernel
theorem dX3_firstPlace_0 : decode cX3_firstPlace 0 = .ok (.iload_n 1, 1) := by decide +kernel
theorem dX3_firstPlace_1 : decode cX3_firstPlace 1 = .ok (.ifCond .lt 19, 3) := by decide +kernel
theorem dX3_firstPlace_4 : decode cX3_firstPlace 4 = .ok (.iload_n 1, 1) := by decide +kernel
theorem dX3_firstPlace_5 : decode cX3_firstPlace 5 = .ok (.bipush 13, 2) := by decide +kernel
theorem dX3_firstPlace_7 : decode cX3_firstPlace 7 = .ok (.if_icmp .ge 13, 3) := by decide +kernel
theorem dX3_firstPlace_10 : decode cX3_firstPlace 10 = .ok (.iload_n 2, 1) := by decide +kernel
theorem dX3_firstPlace_11 : decode cX3_firstPlace 11 = .ok (.ifCond .lt 9, 3) := by decide +kernel
theorem dX3_firstPlace_14 : decode cX3_firstPlace 14 = .ok (.iload_n 2, 1) := by decide +kernel
theorem dX3_firstPlace_15 : decode cX3_firstPlace 15 = .ok (.bipush 6, 2) := by decide +kernel
theorem dX3_firstPlace_17 : decode cX3_firstPlace 17 = .ok (.if_icmp .lt 6, 3) := by decide +kernel
theorem dX3_firstPlace_20 : decode cX3_firstPlace 20 = .ok (.bipush (-99), 2) := by decide +kernel
theorem dX3_firstPlace_22 : decode cX3_firstPlace 22 = .ok (.ireturn, 1) := by decide +kernel
theorem dX3_firstPlace_23 : decode cX3_firstPlace 23 = .ok (.aload_n 0, 1) := by decide +kernel
theorem dX3_firstPlace_24 : decode cX3_firstPlace 24 = .ok (.getfield 23, 3) := by decide +kernel
theorem dX3_firstPlace_27 : decode cX3_firstPlace 27 = .ok (.iload_n 1, 1) := by decide +kernel
theorem dX3_firstPlace_28 : decode cX3_firstPlace 28 = .ok (.aaload, 1) := by decide +kernel
theorem dX3_firstPlace_29 : decode cX3_firstPlace 29 = .ok (.iload_n 2, 1) := by decide +kernel
theorem dX3_firstPlace_30 : decode cX3_firstPlace 30 = .ok (.iaload, 1) := by decide +kernel
theorem dX3_firstPlace_31 : decode cX3_firstPlace 31 = .ok (.ireturn, 1) := by decide +kernel
theorem dX3_marksOf_0 : decode cX3_marksOf 0 = .ok (.iconst 0, 1) := by decide +kernel
theorem dX3_marksOf_1 : decode cX3_marksOf 1 = .ok (.istore_n 2, 1) := by decide +kernel
theorem dX3_marksOf_2 : decode cX3_marksOf 2 = .ok (.iconst 0, 1) := by decide +kernel
theorem dX3_marksOf_3 : decode cX3_marksOf 3 = .ok (.istore_n 3, 1) := by decide +kernel
theorem dX3_marksOf_4 : decode cX3_marksOf 4 = .ok (.iload_n 3, 1) := by decide +kernel
theorem dX3_marksOf_5 : decode cX3_marksOf 5 = .ok (.aload_n 0, 1) := by decide +kernel
theorem dX3_marksOf_6 : decode cX3_marksOf 6 = .ok (.getfield 39, 3) := by decide +kernel
theorem dX3_marksOf_9 : decode cX3_marksOf 9 = .ok (.if_icmp .ge 22, 3) := by decide +kernel
theorem dX3_marksOf_12 : decode cX3_marksOf 12 = .ok (.aload_n 0, 1) := by decide +kernel
theorem dX3_marksOf_13 : decode cX3_marksOf 13 = .ok (.getfield 36, 3) := by decide +kernel
theorem dX3_marksOf_16 : decode cX3_marksOf 16 = .ok (.iload_n 3, 1) := by decide +kernel
theorem dX3_marksOf_17 : decode cX3_marksOf 17 = .ok (.iaload, 1) := by decide +kernel
theorem dX3_marksOf_18 : decode cX3_marksOf 18 = .ok (.iload_n 1, 1) := by decide +kernel
theorem dX3_marksOf_19 : decode cX3_marksOf 19 = .ok (.if_icmp .ne 6, 3) := by decide +kernel
theorem dX3_marksOf_22 : decode cX3_marksOf 22 = .ok (.iinc 2 1, 3) := by decide +kernel
theorem dX3_marksOf_25 : decode cX3_marksOf 25 = .ok (.iinc 3 1, 3) := by decide +kernel
theorem dX3_marksOf_28 : decode cX3_marksOf 28 = .ok (.goto (-24), 3) := by decide +kernel
theorem dX3_marksOf_31 : decode cX3_marksOf 31 = .ok (.iload_n 2, 1) := by decide +kernel
theorem dX3_marksOf_32 : decode cX3_marksOf 32 = .ok (.ireturn, 1) := by decide +kernel
theorem dX3_markPart_0 : decode cX3_markPart 0 = .ok (.iload_n 1, 1) := by decide +kernel
theorem dX3_markPart_1 : decode cX3_markPart 1 = .ok (.ifCond .lt 11, 3) := by decide +kernel
theorem dX3_markPart_4 : decode cX3_markPart 4 = .ok (.iload_n 1, 1) := by decide +kernel
theorem dX3_markPart_5 : decode cX3_markPart 5 = .ok (.aload_n 0, 1) := by decide +kernel
theorem dX3_markPart_6 : decode cX3_markPart 6 = .ok (.getfield 39, 3) := by decide +kernel
theorem dX3_markPart_9 : decode cX3_markPart 9 = .ok (.if_icmp .lt 6, 3) := by decide +kernel
theorem dX3_markPart_12 : decode cX3_markPart 12 = .ok (.bipush (-99), 2) := by decide +kernel
theorem dX3_markPart_14 : decode cX3_markPart 14 = .ok (.ireturn, 1) := by decide +kernel
theorem dX3_markPart_15 : decode cX3_markPart 15 = .ok (.iload_n 2, 1) := by decide +kernel
theorem dX3_markPart_16 : decode cX3_markPart 16 = .ok (.tableswitch 49 0 2 #[28, 35, 42], 28) := by decide +kernel
theorem dX3_markPart_44 : decode cX3_markPart 44 = .ok (.aload_n 0, 1) := by decide +kernel
theorem dX3_markPart_45 : decode cX3_markPart 45 = .ok (.getfield 30, 3) := by decide +kernel
theorem dX3_markPart_48 : decode cX3_markPart 48 = .ok (.iload_n 1, 1) := by decide +kernel
theorem dX3_markPart_49 : decode cX3_markPart 49 = .ok (.iaload, 1) := by decide +kernel
theorem dX3_markPart_50 : decode cX3_markPart 50 = .ok (.ireturn, 1) := by decide +kernel
theorem dX3_markPart_51 : decode cX3_markPart 51 = .ok (.aload_n 0, 1) := by decide +kernel
theorem dX3_markPart_52 : decode cX3_markPart 52 = .ok (.getfield 33, 3) := by decide +kernel
theorem dX3_markPart_55 : decode cX3_markPart 55 = .ok (.iload_n 1, 1) := by decide +kernel
theorem dX3_markPart_56 : decode cX3_markPart 56 = .ok (.iaload, 1) := by decide +kernel
theorem dX3_markPart_57 : decode cX3_markPart 57 = .ok (.ireturn, 1) := by decide +kernel
theorem dX3_markPart_58 : decode cX3_markPart 58 = .ok (.aload_n 0, 1) := by decide +kernel
theorem dX3_markPart_59 : decode cX3_markPart 59 = .ok (.getfield 36, 3) := by decide +kernel
theorem dX3_markPart_62 : decode cX3_markPart 62 = .ok (.iload_n 1, 1) := by decide +kernel
theorem dX3_markPart_63 : decode cX3_markPart 63 = .ok (.iaload, 1) := by decide +kernel
theorem dX3_markPart_64 : decode cX3_markPart 64 = .ok (.ireturn, 1) := by decide +kernel
theorem dX3_markPart_65 : decode cX3_markPart 65 = .ok (.bipush (-99), 2) := by decide +kernel
theorem dX3_markPart_67 : decode cX3_markPart 67 = .ok (.ireturn, 1) := by decide +kernel
theorem dX4_init_0 : decode cX4_init 0 = .ok (.aload_n 0, 1) := by decide +kernel
theorem dX4_init_1 : decode cX4_init 1 = .ok (.invokespecial 3, 3) := by decide +kernel
theorem dX4_init_4 : decode cX4_init 4 = .ok (.aload_n 0, 1) := by decide +kernel
theorem dX4_init_5 : decode cX4_init 5 = .ok (.new 9, 3) := by decide +kernel
theorem dX4_init_8 : decode cX4_init 8 = .ok (.dup, 1) := by decide +kernel
theorem dX4_init_9 : decode cX4_init 9 = .ok (.invokespecial 11, 3) := by decide +kernel
theorem dX4_init_12 : decode cX4_init 12 = .ok (.putfield 12, 3) := by decide +kernel
theorem dX4_init_15 : decode cX4_init 15 = .ok (.aload_n 0, 1) := by decide +kernel
theorem dX4_init_16 : decode cX4_init 16 = .ok (.new 18, 3) := by decide +kernel
theorem dX4_init_19 : decode cX4_init 19 = .ok (.dup, 1) := by decide +kernel
theorem dX4_init_20 : decode cX4_init 20 = .ok (.invokespecial 20, 3) := by decide +kernel
theorem dX4_init_23 : decode cX4_init 23 = .ok (.putfield 21, 3) := by decide +kernel
theorem dX4_init_26 : decode cX4_init 26 = .ok (.aload_n 0, 1) := by decide +kernel
theorem dX4_init_27 : decode cX4_init 27 = .ok (.new 25, 3) := by decide +kernel
theorem dX4_init_30 : decode cX4_init 30 = .ok (.dup, 1) := by decide +kernel
theorem dX4_init_31 : decode cX4_init 31 = .ok (.invokespecial 27, 3) := by decide +kernel
theorem dX4_init_34 : decode cX4_init 34 = .ok (.putfield 28, 3) := by decide +kernel
theorem dX4_init_37 : decode cX4_init 37 = .ok (.aload_n 0, 1) := by decide +kernel
theorem dX4_init_38 : decode cX4_init 38 = .ok (.iconst 2, 1) := by decide +kernel
theorem dX4_init_39 : decode cX4_init 39 = .ok (.anewarray 18, 3) := by decide +kernel
theorem dX4_init_42 : decode cX4_init 42 = .ok (.putfield 32, 3) := by decide +kernel
theorem dX4_init_45 : decode cX4_init 45 = .ok (.aload_n 0, 1) := by decide +kernel
theorem dX4_init_46 : decode cX4_init 46 = .ok (.iconst 2, 1) := by decide +kernel
theorem dX4_init_47 : decode cX4_init 47 = .ok (.newarray .boolean, 2) := by decide +kernel
theorem dX4_init_49 : decode cX4_init 49 = .ok (.putfield 36, 3) := by decide +kernel
theorem dX4_init_52 : decode cX4_init 52 = .ok (.iconst 0, 1) := by decide +kernel
theorem dX4_init_53 : decode cX4_init 53 = .ok (.istore_n 1, 1) := by decide +kernel
theorem dX4_init_54 : decode cX4_init 54 = .ok (.iload_n 1, 1) := by decide +kernel
theorem dX4_init_55 : decode cX4_init 55 = .ok (.iconst 2, 1) := by decide +kernel
theorem dX4_init_56 : decode cX4_init 56 = .ok (.if_icmp .ge 22, 3) := by decide +kernel
theorem dX4_init_59 : decode cX4_init 59 = .ok (.aload_n 0, 1) := by decide +kernel
theorem dX4_init_60 : decode cX4_init 60 = .ok (.getfield 32, 3) := by decide +kernel
theorem dX4_init_63 : decode cX4_init 63 = .ok (.iload_n 1, 1) := by decide +kernel
theorem dX4_init_64 : decode cX4_init 64 = .ok (.new 18, 3) := by decide +kernel
theorem dX4_init_67 : decode cX4_init 67 = .ok (.dup, 1) := by decide +kernel
theorem dX4_init_68 : decode cX4_init 68 = .ok (.invokespecial 20, 3) := by decide +kernel
theorem dX4_init_71 : decode cX4_init 71 = .ok (.aastore, 1) := by decide +kernel
theorem dX4_init_72 : decode cX4_init 72 = .ok (.iinc 1 1, 3) := by decide +kernel
theorem dX4_init_75 : decode cX4_init 75 = .ok (.goto (-21), 3) := by decide +kernel
theorem dX4_init_78 : decode cX4_init 78 = .ok (.return_, 1) := by decide +kernel
theorem dX4_hasSlot_0 : decode cX4_hasSlot 0 = .ok (.iload_n 1, 1) := by decide +kernel
theorem dX4_hasSlot_1 : decode cX4_hasSlot 1 = .ok (.ifCond .lt 12, 3) := by decide +kernel
theorem dX4_hasSlot_4 : decode cX4_hasSlot 4 = .ok (.iload_n 1, 1) := by decide +kernel
theorem dX4_hasSlot_5 : decode cX4_hasSlot 5 = .ok (.iconst 2, 1) := by decide +kernel
theorem dX4_hasSlot_6 : decode cX4_hasSlot 6 = .ok (.if_icmp .ge 7, 3) := by decide +kernel
theorem dX4_hasSlot_9 : decode cX4_hasSlot 9 = .ok (.iconst 1, 1) := by decide +kernel
theorem dX4_hasSlot_10 : decode cX4_hasSlot 10 = .ok (.goto 4, 3) := by decide +kernel
theorem dX4_hasSlot_13 : decode cX4_hasSlot 13 = .ok (.iconst 0, 1) := by decide +kernel
theorem dX4_hasSlot_14 : decode cX4_hasSlot 14 = .ok (.ireturn, 1) := by decide +kernel
theorem dX4_isTaken_0 : decode cX4_isTaken 0 = .ok (.aload_n 0, 1) := by decide +kernel
theorem dX4_isTaken_1 : decode cX4_isTaken 1 = .ok (.iload_n 1, 1) := by decide +kernel
theorem dX4_isTaken_2 : decode cX4_isTaken 2 = .ok (.invokevirtual 40, 3) := by decide +kernel
theorem dX4_isTaken_5 : decode cX4_isTaken 5 = .ok (.ifCond .eq 16, 3) := by decide +kernel
theorem dX4_isTaken_8 : decode cX4_isTaken 8 = .ok (.aload_n 0, 1) := by decide +kernel
theorem dX4_isTaken_9 : decode cX4_isTaken 9 = .ok (.getfield 36, 3) := by decide +kernel
theorem dX4_isTaken_12 : decode cX4_isTaken 12 = .ok (.iload_n 1, 1) := by decide +kernel
theorem dX4_isTaken_13 : decode cX4_isTaken 13 = .ok (.baload, 1) := by decide +kernel
theorem dX4_isTaken_14 : decode cX4_isTaken 14 = .ok (.ifCond .eq 7, 3) := by decide +kernel
theorem dX4_isTaken_17 : decode cX4_isTaken 17 = .ok (.iconst 1, 1) := by decide +kernel
theorem dX4_isTaken_18 : decode cX4_isTaken 18 = .ok (.goto 4, 3) := by decide +kernel
theorem dX4_isTaken_21 : decode cX4_isTaken 21 = .ok (.iconst 0, 1) := by decide +kernel
theorem dX4_isTaken_22 : decode cX4_isTaken 22 = .ok (.ireturn, 1) := by decide +kernel
theorem dX4_takenCount_0 : decode cX4_takenCount 0 = .ok (.iconst 0, 1) := by decide +kernel
theorem dX4_takenCount_1 : decode cX4_takenCount 1 = .ok (.istore_n 1, 1) := by decide +kernel
theorem dX4_takenCount_2 : decode cX4_takenCount 2 = .ok (.iconst 0, 1) := by decide +kernel
theorem dX4_takenCount_3 : decode cX4_takenCount 3 = .ok (.istore_n 2, 1) := by decide +kernel
theorem dX4_takenCount_4 : decode cX4_takenCount 4 = .ok (.iload_n 2, 1) := by decide +kernel
theorem dX4_takenCount_5 : decode cX4_takenCount 5 = .ok (.iconst 2, 1) := by decide +kernel
theorem dX4_takenCount_6 : decode cX4_takenCount 6 = .ok (.if_icmp .ge 21, 3) := by decide +kernel
theorem dX4_takenCount_9 : decode cX4_takenCount 9 = .ok (.aload_n 0, 1) := by decide +kernel
theorem dX4_takenCount_10 : decode cX4_takenCount 10 = .ok (.getfield 36, 3) := by decide +kernel
theorem dX4_takenCount_13 : decode cX4_takenCount 13 = .ok (.iload_n 2, 1) := by decide +kernel
theorem dX4_takenCount_14 : decode cX4_takenCount 14 = .ok (.baload, 1) := by decide +kernel
theorem dX4_takenCount_15 : decode cX4_takenCount 15 = .ok (.ifCond .eq 6, 3) := by decide +kernel
theorem dX4_takenCount_18 : decode cX4_takenCount 18 = .ok (.iinc 1 1, 3) := by decide +kernel
theorem dX4_takenCount_21 : decode cX4_takenCount 21 = .ok (.iinc 2 1, 3) := by decide +kernel
theorem dX4_takenCount_24 : decode cX4_takenCount 24 = .ok (.goto (-20), 3) := by decide +kernel
theorem dX4_takenCount_27 : decode cX4_takenCount 27 = .ok (.iload_n 1, 1) := by decide +kernel
theorem dX4_takenCount_28 : decode cX4_takenCount 28 = .ok (.ireturn, 1) := by decide +kernel
theorem dX4_keepChapters_0 : decode cX4_keepChapters 0 = .ok (.aload_n 0, 1) := by decide +kernel
theorem dX4_keepChapters_1 : decode cX4_keepChapters 1 = .ok (.iload_n 1, 1) := by decide +kernel
theorem dX4_keepChapters_2 : decode cX4_keepChapters 2 = .ok (.invokevirtual 40, 3) := by decide +kernel
theorem dX4_keepChapters_5 : decode cX4_keepChapters 5 = .ok (.ifCond .eq 23, 3) := by decide +kernel
theorem dX4_keepChapters_8 : decode cX4_keepChapters 8 = .ok (.aload_n 0, 1) := by decide +kernel
theorem dX4_keepChapters_9 : decode cX4_keepChapters 9 = .ok (.getfield 32, 3) := by decide +kernel
theorem dX4_keepChapters_12 : decode cX4_keepChapters 12 = .ok (.iload_n 1, 1) := by decide +kernel
theorem dX4_keepChapters_13 : decode cX4_keepChapters 13 = .ok (.aaload, 1) := by decide +kernel
theorem dX4_keepChapters_14 : decode cX4_keepChapters 14 = .ok (.aload_n 0, 1) := by decide +kernel
theorem dX4_keepChapters_15 : decode cX4_keepChapters 15 = .ok (.getfield 21, 3) := by decide +kernel
theorem dX4_keepChapters_18 : decode cX4_keepChapters 18 = .ok (.invokevirtual 44, 3) := by decide +kernel
theorem dX4_keepChapters_21 : decode cX4_keepChapters 21 = .ok (.aload_n 0, 1) := by decide +kernel
theorem dX4_keepChapters_22 : decode cX4_keepChapters 22 = .ok (.getfield 36, 3) := by decide +kernel
theorem dX4_keepChapters_25 : decode cX4_keepChapters 25 = .ok (.iload_n 1, 1) := by decide +kernel
theorem dX4_keepChapters_26 : decode cX4_keepChapters 26 = .ok (.iconst 1, 1) := by decide +kernel
theorem dX4_keepChapters_27 : decode cX4_keepChapters 27 = .ok (.bastore, 1) := by decide +kernel
theorem dX4_keepChapters_28 : decode cX4_keepChapters 28 = .ok (.return_, 1) := by decide +kernel
theorem dX4_bringChapters_0 : decode cX4_bringChapters 0 = .ok (.aload_n 0, 1) := by decide +kernel
theorem dX4_bringChapters_1 : decode cX4_bringChapters 1 = .ok (.iload_n 1, 1) := by decide +kernel
theorem dX4_bringChapters_2 : decode cX4_bringChapters 2 = .ok (.invokevirtual 48, 3) := by decide +kernel
theorem dX4_bringChapters_5 : decode cX4_bringChapters 5 = .ok (.ifCond .eq 16, 3) := by decide +kernel
theorem dX4_bringChapters_8 : decode cX4_bringChapters 8 = .ok (.aload_n 0, 1) := by decide +kernel
theorem dX4_bringChapters_9 : decode cX4_bringChapters 9 = .ok (.getfield 21, 3) := by decide +kernel
theorem dX4_bringChapters_12 : decode cX4_bringChapters 12 = .ok (.aload_n 0, 1) := by decide +kernel
theorem dX4_bringChapters_13 : decode cX4_bringChapters 13 = .ok (.getfield 32, 3) := by decide +kernel
theorem dX4_bringChapters_16 : decode cX4_bringChapters 16 = .ok (.iload_n 1, 1) := by decide +kernel
theorem dX4_bringChapters_17 : decode cX4_bringChapters 17 = .ok (.aaload, 1) := by decide +kernel
theorem dX4_bringChapters_18 : decode cX4_bringChapters 18 = .ok (.invokevirtual 44, 3) := by decide +kernel
theorem dX4_bringChapters_21 : decode cX4_bringChapters 21 = .ok (.return_, 1) := by decide +kernel
theorem dX4_mayHaveBase_0 : decode cX4_mayHaveBase 0 = .ok (.iload_n 2, 1) := by decide +kernel
theorem dX4_mayHaveBase_1 : decode cX4_mayHaveBase 1 = .ok (.iload_n 1, 1) := by decide +kernel
theorem dX4_mayHaveBase_2 : decode cX4_mayHaveBase 2 = .ok (.if_icmp .eq 27, 3) := by decide +kernel
theorem dX4_mayHaveBase_5 : decode cX4_mayHaveBase 5 = .ok (.aload_n 0, 1) := by decide +kernel
theorem dX4_mayHaveBase_6 : decode cX4_mayHaveBase 6 = .ok (.getfield 12, 3) := by decide +kernel
theorem dX4_mayHaveBase_9 : decode cX4_mayHaveBase 9 = .ok (.iload_n 2, 1) := by decide +kernel
theorem dX4_mayHaveBase_10 : decode cX4_mayHaveBase 10 = .ok (.invokevirtual 51, 3) := by decide +kernel
theorem dX4_mayHaveBase_13 : decode cX4_mayHaveBase 13 = .ok (.ifCond .ne 14, 3) := by decide +kernel
theorem dX4_mayHaveBase_16 : decode cX4_mayHaveBase 16 = .ok (.aload_n 0, 1) := by decide +kernel
theorem dX4_mayHaveBase_17 : decode cX4_mayHaveBase 17 = .ok (.getfield 12, 3) := by decide +kernel
theorem dX4_mayHaveBase_20 : decode cX4_mayHaveBase 20 = .ok (.iload_n 1, 1) := by decide +kernel
theorem dX4_mayHaveBase_21 : decode cX4_mayHaveBase 21 = .ok (.invokevirtual 54, 3) := by decide +kernel
theorem dX4_mayHaveBase_24 : decode cX4_mayHaveBase 24 = .ok (.ifCond .eq 5, 3) := by decide +kernel
theorem dX4_mayHaveBase_27 : decode cX4_mayHaveBase 27 = .ok (.iconst 0, 1) := by decide +kernel
theorem dX4_mayHaveBase_28 : decode cX4_mayHaveBase 28 = .ok (.ireturn, 1) := by decide +kernel
theorem dX4_mayHaveBase_29 : decode cX4_mayHaveBase 29 = .ok (.aload_n 0, 1) := by decide +kernel
theorem dX4_mayHaveBase_30 : decode cX4_mayHaveBase 30 = .ok (.getfield 12, 3) := by decide +kernel
theorem dX4_mayHaveBase_33 : decode cX4_mayHaveBase 33 = .ok (.iload_n 1, 1) := by decide +kernel
theorem dX4_mayHaveBase_34 : decode cX4_mayHaveBase 34 = .ok (.invokevirtual 57, 3) := by decide +kernel
theorem dX4_mayHaveBase_37 : decode cX4_mayHaveBase 37 = .ok (.istore_n 3, 1) := by decide +kernel
theorem dX4_mayHaveBase_38 : decode cX4_mayHaveBase 38 = .ok (.aload_n 0, 1) := by decide +kernel
theorem dX4_mayHaveBase_39 : decode cX4_mayHaveBase 39 = .ok (.getfield 12, 3) := by decide +kernel
theorem dX4_mayHaveBase_42 : decode cX4_mayHaveBase 42 = .ok (.iload_n 1, 1) := by decide +kernel
theorem dX4_mayHaveBase_43 : decode cX4_mayHaveBase 43 = .ok (.iload_n 2, 1) := by decide +kernel
theorem dX4_mayHaveBase_44 : decode cX4_mayHaveBase 44 = .ok (.invokevirtual 61, 3) := by decide +kernel
theorem dX4_mayHaveBase_47 : decode cX4_mayHaveBase 47 = .ok (.aload_n 0, 1) := by decide +kernel
theorem dX4_mayHaveBase_48 : decode cX4_mayHaveBase 48 = .ok (.getfield 28, 3) := by decide +kernel
theorem dX4_mayHaveBase_51 : decode cX4_mayHaveBase 51 = .ok (.aload_n 0, 1) := by decide +kernel
theorem dX4_mayHaveBase_52 : decode cX4_mayHaveBase 52 = .ok (.getfield 12, 3) := by decide +kernel
theorem dX4_mayHaveBase_55 : decode cX4_mayHaveBase 55 = .ok (.invokevirtual 65, 3) := by decide +kernel
theorem dX4_mayHaveBase_58 : decode cX4_mayHaveBase 58 = .ok (.istore 4, 2) := by decide +kernel
theorem dX4_mayHaveBase_60 : decode cX4_mayHaveBase 60 = .ok (.aload_n 0, 1) := by decide +kernel
theorem dX4_mayHaveBase_61 : decode cX4_mayHaveBase 61 = .ok (.getfield 12, 3) := by decide +kernel
theorem dX4_mayHaveBase_64 : decode cX4_mayHaveBase 64 = .ok (.iload_n 1, 1) := by decide +kernel
theorem dX4_mayHaveBase_65 : decode cX4_mayHaveBase 65 = .ok (.iload_n 3, 1) := by decide +kernel
theorem dX4_mayHaveBase_66 : decode cX4_mayHaveBase 66 = .ok (.invokevirtual 61, 3) := by decide +kernel
theorem dX4_mayHaveBase_69 : decode cX4_mayHaveBase 69 = .ok (.iload 4, 2) := by decide +kernel
theorem dX4_mayHaveBase_71 : decode cX4_mayHaveBase 71 = .ok (.ifCond .ne 7, 3) := by decide +kernel
theorem dX4_mayHaveBase_74 : decode cX4_mayHaveBase 74 = .ok (.iconst 1, 1) := by decide +kernel
theorem dX4_mayHaveBase_75 : decode cX4_mayHaveBase 75 = .ok (.goto 4, 3) := by decide +kernel
theorem dX4_mayHaveBase_78 : decode cX4_mayHaveBase 78 = .ok (.iconst 0, 1) := by decide +kernel
theorem dX4_mayHaveBase_79 : decode cX4_mayHaveBase 79 = .ok (.ireturn, 1) := by decide +kernel
theorem dX4_occursAt_0 : decode cX4_occursAt 0 = .ok (.aload_n 0, 1) := by decide +kernel
theorem dX4_occursAt_1 : decode cX4_occursAt 1 = .ok (.getfield 28, 3) := by decide +kernel
theorem dX4_occursAt_4 : decode cX4_occursAt 4 = .ok (.iload_n 1, 1) := by decide +kernel
theorem dX4_occursAt_5 : decode cX4_occursAt 5 = .ok (.invokevirtual 69, 3) := by decide +kernel
theorem dX4_occursAt_8 : decode cX4_occursAt 8 = .ok (.istore 4, 2) := by decide +kernel
theorem dX4_occursAt_10 : decode cX4_occursAt 10 = .ok (.iload 4, 2) := by decide +kernel
theorem dX4_occursAt_12 : decode cX4_occursAt 12 = .ok (.ifCond .eq 22, 3) := by decide +kernel
theorem dX4_occursAt_15 : decode cX4_occursAt 15 = .ok (.iload_n 3, 1) := by decide +kernel
theorem dX4_occursAt_16 : decode cX4_occursAt 16 = .ok (.ifCond .lt 18, 3) := by decide +kernel
theorem dX4_occursAt_19 : decode cX4_occursAt 19 = .ok (.iload_n 3, 1) := by decide +kernel
theorem dX4_occursAt_20 : decode cX4_occursAt 20 = .ok (.aload_n 0, 1) := by decide +kernel
theorem dX4_occursAt_21 : decode cX4_occursAt 21 = .ok (.getfield 21, 3) := by decide +kernel
theorem dX4_occursAt_24 : decode cX4_occursAt 24 = .ok (.iload_n 2, 1) := by decide +kernel
theorem dX4_occursAt_25 : decode cX4_occursAt 25 = .ok (.invokevirtual 72, 3) := by decide +kernel
theorem dX4_occursAt_28 : decode cX4_occursAt 28 = .ok (.iload 4, 2) := by decide +kernel
theorem dX4_occursAt_30 : decode cX4_occursAt 30 = .ok (.isub, 1) := by decide +kernel
theorem dX4_occursAt_31 : decode cX4_occursAt 31 = .ok (.if_icmp .le 5, 3) := by decide +kernel
theorem dX4_occursAt_34 : decode cX4_occursAt 34 = .ok (.iconst 0, 1) := by decide +kernel
theorem dX4_occursAt_35 : decode cX4_occursAt 35 = .ok (.ireturn, 1) := by decide +kernel
theorem dX4_occursAt_36 : decode cX4_occursAt 36 = .ok (.iconst 0, 1) := by decide +kernel
theorem dX4_occursAt_37 : decode cX4_occursAt 37 = .ok (.istore 5, 2) := by decide +kernel
theorem dX4_occursAt_39 : decode cX4_occursAt 39 = .ok (.iload 5, 2) := by decide +kernel
theorem dX4_occursAt_41 : decode cX4_occursAt 41 = .ok (.iload 4, 2) := by decide +kernel
theorem dX4_occursAt_43 : decode cX4_occursAt 43 = .ok (.if_icmp .ge 50, 3) := by decide +kernel
theorem dX4_occursAt_46 : decode cX4_occursAt 46 = .ok (.aload_n 0, 1) := by decide +kernel
theorem dX4_occursAt_47 : decode cX4_occursAt 47 = .ok (.getfield 12, 3) := by decide +kernel
theorem dX4_occursAt_50 : decode cX4_occursAt 50 = .ok (.aload_n 0, 1) := by decide +kernel
theorem dX4_occursAt_51 : decode cX4_occursAt 51 = .ok (.getfield 28, 3) := by decide +kernel
theorem dX4_occursAt_54 : decode cX4_occursAt 54 = .ok (.iload_n 1, 1) := by decide +kernel
theorem dX4_occursAt_55 : decode cX4_occursAt 55 = .ok (.iload 5, 2) := by decide +kernel
theorem dX4_occursAt_57 : decode cX4_occursAt 57 = .ok (.invokevirtual 73, 3) := by decide +kernel
theorem dX4_occursAt_60 : decode cX4_occursAt 60 = .ok (.invokevirtual 57, 3) := by decide +kernel
theorem dX4_occursAt_63 : decode cX4_occursAt 63 = .ok (.aload_n 0, 1) := by decide +kernel
theorem dX4_occursAt_64 : decode cX4_occursAt 64 = .ok (.getfield 12, 3) := by decide +kernel
theorem dX4_occursAt_67 : decode cX4_occursAt 67 = .ok (.aload_n 0, 1) := by decide +kernel
theorem dX4_occursAt_68 : decode cX4_occursAt 68 = .ok (.getfield 21, 3) := by decide +kernel
theorem dX4_occursAt_71 : decode cX4_occursAt 71 = .ok (.iload_n 2, 1) := by decide +kernel
theorem dX4_occursAt_72 : decode cX4_occursAt 72 = .ok (.iload_n 3, 1) := by decide +kernel
theorem dX4_occursAt_73 : decode cX4_occursAt 73 = .ok (.iload 5, 2) := by decide +kernel
theorem dX4_occursAt_75 : decode cX4_occursAt 75 = .ok (.iadd, 1) := by decide +kernel
theorem dX4_occursAt_76 : decode cX4_occursAt 76 = .ok (.invokevirtual 77, 3) := by decide +kernel
theorem dX4_occursAt_79 : decode cX4_occursAt 79 = .ok (.invokevirtual 57, 3) := by decide +kernel
theorem dX4_occursAt_82 : decode cX4_occursAt 82 = .ok (.if_icmp .eq 5, 3) := by decide +kernel
theorem dX4_occursAt_85 : decode cX4_occursAt 85 = .ok (.iconst 0, 1) := by decide +kernel
theorem dX4_occursAt_86 : decode cX4_occursAt 86 = .ok (.ireturn, 1) := by decide +kernel
theorem dX4_occursAt_87 : decode cX4_occursAt 87 = .ok (.iinc 5 1, 3) := by decide +kernel
theorem dX4_occursAt_90 : decode cX4_occursAt 90 = .ok (.goto (-51), 3) := by decide +kernel
theorem dX4_occursAt_93 : decode cX4_occursAt 93 = .ok (.iconst 1, 1) := by decide +kernel
theorem dX4_occursAt_94 : decode cX4_occursAt 94 = .ok (.ireturn, 1) := by decide +kernel
theorem dX4_occurrences_0 : decode cX4_occurrences 0 = .ok (.iconst 0, 1) := by decide +kernel
theorem dX4_occurrences_1 : decode cX4_occurrences 1 = .ok (.istore_n 2, 1) := by decide +kernel
theorem dX4_occurrences_2 : decode cX4_occurrences 2 = .ok (.iconst 0, 1) := by decide +kernel
theorem dX4_occurrences_3 : decode cX4_occurrences 3 = .ok (.istore_n 3, 1) := by decide +kernel
theorem dX4_occurrences_4 : decode cX4_occurrences 4 = .ok (.iload_n 3, 1) := by decide +kernel
theorem dX4_occurrences_5 : decode cX4_occurrences 5 = .ok (.bipush 6, 2) := by decide +kernel
theorem dX4_occurrences_7 : decode cX4_occurrences 7 = .ok (.if_icmp .ge 45, 3) := by decide +kernel
theorem dX4_occurrences_10 : decode cX4_occurrences 10 = .ok (.iconst 0, 1) := by decide +kernel
theorem dX4_occurrences_11 : decode cX4_occurrences 11 = .ok (.istore 4, 2) := by decide +kernel
theorem dX4_occurrences_13 : decode cX4_occurrences 13 = .ok (.iload 4, 2) := by decide +kernel
theorem dX4_occurrences_15 : decode cX4_occurrences 15 = .ok (.aload_n 0, 1) := by decide +kernel
theorem dX4_occurrences_16 : decode cX4_occurrences 16 = .ok (.getfield 21, 3) := by decide +kernel
theorem dX4_occurrences_19 : decode cX4_occurrences 19 = .ok (.iload_n 3, 1) := by decide +kernel
theorem dX4_occurrences_20 : decode cX4_occurrences 20 = .ok (.invokevirtual 72, 3) := by decide +kernel
theorem dX4_occurrences_23 : decode cX4_occurrences 23 = .ok (.if_icmp .ge 23, 3) := by decide +kernel
theorem dX4_occurrences_26 : decode cX4_occurrences 26 = .ok (.aload_n 0, 1) := by decide +kernel
theorem dX4_occurrences_27 : decode cX4_occurrences 27 = .ok (.iload_n 1, 1) := by decide +kernel
theorem dX4_occurrences_28 : decode cX4_occurrences 28 = .ok (.iload_n 3, 1) := by decide +kernel
theorem dX4_occurrences_29 : decode cX4_occurrences 29 = .ok (.iload 4, 2) := by decide +kernel
theorem dX4_occurrences_31 : decode cX4_occurrences 31 = .ok (.invokevirtual 78, 3) := by decide +kernel
theorem dX4_occurrences_34 : decode cX4_occurrences 34 = .ok (.ifCond .eq 6, 3) := by decide +kernel
theorem dX4_occurrences_37 : decode cX4_occurrences 37 = .ok (.iinc 2 1, 3) := by decide +kernel
theorem dX4_occurrences_40 : decode cX4_occurrences 40 = .ok (.iinc 4 1, 3) := by decide +kernel
theorem dX4_occurrences_43 : decode cX4_occurrences 43 = .ok (.goto (-30), 3) := by decide +kernel
theorem dX4_occurrences_46 : decode cX4_occurrences 46 = .ok (.iinc 3 1, 3) := by decide +kernel
theorem dX4_occurrences_49 : decode cX4_occurrences 49 = .ok (.goto (-45), 3) := by decide +kernel
theorem dX4_occurrences_52 : decode cX4_occurrences 52 = .ok (.iload_n 2, 1) := by decide +kernel
theorem dX4_occurrences_53 : decode cX4_occurrences 53 = .ok (.ireturn, 1) := by decide +kernel
theorem dX4_longestAt_0 : decode cX4_longestAt 0 = .ok (.bipush (-99), 2) := by decide +kernel
theorem dX4_longestAt_2 : decode cX4_longestAt 2 = .ok (.istore_n 3, 1) := by decide +kernel
theorem dX4_longestAt_3 : decode cX4_longestAt 3 = .ok (.iconst 0, 1) := by decide +kernel
theorem dX4_longestAt_4 : decode cX4_longestAt 4 = .ok (.istore 4, 2) := by decide +kernel
theorem dX4_longestAt_6 : decode cX4_longestAt 6 = .ok (.iload 4, 2) := by decide +kernel
theorem dX4_longestAt_8 : decode cX4_longestAt 8 = .ok (.aload_n 0, 1) := by decide +kernel
theorem dX4_longestAt_9 : decode cX4_longestAt 9 = .ok (.getfield 28, 3) := by decide +kernel
theorem dX4_longestAt_12 : decode cX4_longestAt 12 = .ok (.invokevirtual 82, 3) := by decide +kernel
theorem dX4_longestAt_15 : decode cX4_longestAt 15 = .ok (.if_icmp .ge 43, 3) := by decide +kernel
theorem dX4_longestAt_18 : decode cX4_longestAt 18 = .ok (.aload_n 0, 1) := by decide +kernel
theorem dX4_longestAt_19 : decode cX4_longestAt 19 = .ok (.getfield 28, 3) := by decide +kernel
theorem dX4_longestAt_22 : decode cX4_longestAt 22 = .ok (.iload 4, 2) := by decide +kernel
theorem dX4_longestAt_24 : decode cX4_longestAt 24 = .ok (.invokevirtual 69, 3) := by decide +kernel
theorem dX4_longestAt_27 : decode cX4_longestAt 27 = .ok (.aload_n 0, 1) := by decide +kernel
theorem dX4_longestAt_28 : decode cX4_longestAt 28 = .ok (.getfield 28, 3) := by decide +kernel
theorem dX4_longestAt_31 : decode cX4_longestAt 31 = .ok (.iload_n 3, 1) := by decide +kernel
theorem dX4_longestAt_32 : decode cX4_longestAt 32 = .ok (.invokevirtual 69, 3) := by decide +kernel
theorem dX4_longestAt_35 : decode cX4_longestAt 35 = .ok (.if_icmp .le 17, 3) := by decide +kernel
theorem dX4_longestAt_38 : decode cX4_longestAt 38 = .ok (.aload_n 0, 1) := by decide +kernel
theorem dX4_longestAt_39 : decode cX4_longestAt 39 = .ok (.iload 4, 2) := by decide +kernel
theorem dX4_longestAt_41 : decode cX4_longestAt 41 = .ok (.iload_n 1, 1) := by decide +kernel
theorem dX4_longestAt_42 : decode cX4_longestAt 42 = .ok (.iload_n 2, 1) := by decide +kernel
theorem dX4_longestAt_43 : decode cX4_longestAt 43 = .ok (.invokevirtual 78, 3) := by decide +kernel
theorem dX4_longestAt_46 : decode cX4_longestAt 46 = .ok (.ifCond .eq 6, 3) := by decide +kernel
theorem dX4_longestAt_49 : decode cX4_longestAt 49 = .ok (.iload 4, 2) := by decide +kernel
theorem dX4_longestAt_51 : decode cX4_longestAt 51 = .ok (.istore_n 3, 1) := by decide +kernel
theorem dX4_longestAt_52 : decode cX4_longestAt 52 = .ok (.iinc 4 1, 3) := by decide +kernel
theorem dX4_longestAt_55 : decode cX4_longestAt 55 = .ok (.goto (-49), 3) := by decide +kernel
theorem dX4_longestAt_58 : decode cX4_longestAt 58 = .ok (.iload_n 3, 1) := by decide +kernel
theorem dX4_longestAt_59 : decode cX4_longestAt 59 = .ok (.ireturn, 1) := by decide +kernel
theorem dX4_timesWithin_0 : decode cX4_timesWithin 0 = .ok (.iconst 0, 1) := by decide +kernel
theorem dX4_timesWithin_1 : decode cX4_timesWithin 1 = .ok (.istore_n 3, 1) := by decide +kernel
theorem dX4_timesWithin_2 : decode cX4_timesWithin 2 = .ok (.iconst 0, 1) := by decide +kernel
theorem dX4_timesWithin_3 : decode cX4_timesWithin 3 = .ok (.istore 4, 2) := by decide +kernel
theorem dX4_timesWithin_5 : decode cX4_timesWithin 5 = .ok (.iload 4, 2) := by decide +kernel
theorem dX4_timesWithin_7 : decode cX4_timesWithin 7 = .ok (.aload_n 0, 1) := by decide +kernel
theorem dX4_timesWithin_8 : decode cX4_timesWithin 8 = .ok (.getfield 28, 3) := by decide +kernel
theorem dX4_timesWithin_11 : decode cX4_timesWithin 11 = .ok (.iload_n 2, 1) := by decide +kernel
theorem dX4_timesWithin_12 : decode cX4_timesWithin 12 = .ok (.invokevirtual 69, 3) := by decide +kernel
theorem dX4_timesWithin_15 : decode cX4_timesWithin 15 = .ok (.aload_n 0, 1) := by decide +kernel
theorem dX4_timesWithin_16 : decode cX4_timesWithin 16 = .ok (.getfield 28, 3) := by decide +kernel
theorem dX4_timesWithin_19 : decode cX4_timesWithin 19 = .ok (.iload_n 1, 1) := by decide +kernel
theorem dX4_timesWithin_20 : decode cX4_timesWithin 20 = .ok (.invokevirtual 69, 3) := by decide +kernel
theorem dX4_timesWithin_23 : decode cX4_timesWithin 23 = .ok (.isub, 1) := by decide +kernel
theorem dX4_timesWithin_24 : decode cX4_timesWithin 24 = .ok (.if_icmp .gt 23, 3) := by decide +kernel
theorem dX4_timesWithin_27 : decode cX4_timesWithin 27 = .ok (.aload_n 0, 1) := by decide +kernel
theorem dX4_timesWithin_28 : decode cX4_timesWithin 28 = .ok (.iload_n 1, 1) := by decide +kernel
theorem dX4_timesWithin_29 : decode cX4_timesWithin 29 = .ok (.iload_n 2, 1) := by decide +kernel
theorem dX4_timesWithin_30 : decode cX4_timesWithin 30 = .ok (.iload 4, 2) := by decide +kernel
theorem dX4_timesWithin_32 : decode cX4_timesWithin 32 = .ok (.invokevirtual 86, 3) := by decide +kernel
theorem dX4_timesWithin_35 : decode cX4_timesWithin 35 = .ok (.ifCond .eq 6, 3) := by decide +kernel
theorem dX4_timesWithin_38 : decode cX4_timesWithin 38 = .ok (.iinc 3 1, 3) := by decide +kernel
theorem dX4_timesWithin_41 : decode cX4_timesWithin 41 = .ok (.iinc 4 1, 3) := by decide +kernel
theorem dX4_timesWithin_44 : decode cX4_timesWithin 44 = .ok (.goto (-39), 3) := by decide +kernel
theorem dX4_timesWithin_47 : decode cX4_timesWithin 47 = .ok (.iload_n 3, 1) := by decide +kernel
theorem dX4_timesWithin_48 : decode cX4_timesWithin 48 = .ok (.ireturn, 1) := by decide +kernel
theorem dX4_occursWithin_0 : decode cX4_occursWithin 0 = .ok (.iconst 0, 1) := by decide +kernel
theorem dX4_occursWithin_1 : decode cX4_occursWithin 1 = .ok (.istore 4, 2) := by decide +kernel
theorem dX4_occursWithin_3 : decode cX4_occursWithin 3 = .ok (.iload 4, 2) := by decide +kernel
theorem dX4_occursWithin_5 : decode cX4_occursWithin 5 = .ok (.aload_n 0, 1) := by decide +kernel
theorem dX4_occursWithin_6 : decode cX4_occursWithin 6 = .ok (.getfield 28, 3) := by decide +kernel
theorem dX4_occursWithin_9 : decode cX4_occursWithin 9 = .ok (.iload_n 1, 1) := by decide +kernel
theorem dX4_occursWithin_10 : decode cX4_occursWithin 10 = .ok (.invokevirtual 69, 3) := by decide +kernel
theorem dX4_occursWithin_13 : decode cX4_occursWithin 13 = .ok (.if_icmp .ge 50, 3) := by decide +kernel
theorem dX4_occursWithin_16 : decode cX4_occursWithin 16 = .ok (.aload_n 0, 1) := by decide +kernel
theorem dX4_occursWithin_17 : decode cX4_occursWithin 17 = .ok (.getfield 12, 3) := by decide +kernel
theorem dX4_occursWithin_20 : decode cX4_occursWithin 20 = .ok (.aload_n 0, 1) := by decide +kernel
theorem dX4_occursWithin_21 : decode cX4_occursWithin 21 = .ok (.getfield 28, 3) := by decide +kernel
theorem dX4_occursWithin_24 : decode cX4_occursWithin 24 = .ok (.iload_n 1, 1) := by decide +kernel
theorem dX4_occursWithin_25 : decode cX4_occursWithin 25 = .ok (.iload 4, 2) := by decide +kernel
theorem dX4_occursWithin_27 : decode cX4_occursWithin 27 = .ok (.invokevirtual 73, 3) := by decide +kernel
theorem dX4_occursWithin_30 : decode cX4_occursWithin 30 = .ok (.invokevirtual 57, 3) := by decide +kernel
theorem dX4_occursWithin_33 : decode cX4_occursWithin 33 = .ok (.aload_n 0, 1) := by decide +kernel
theorem dX4_occursWithin_34 : decode cX4_occursWithin 34 = .ok (.getfield 12, 3) := by decide +kernel
theorem dX4_occursWithin_37 : decode cX4_occursWithin 37 = .ok (.aload_n 0, 1) := by decide +kernel
theorem dX4_occursWithin_38 : decode cX4_occursWithin 38 = .ok (.getfield 28, 3) := by decide +kernel
theorem dX4_occursWithin_41 : decode cX4_occursWithin 41 = .ok (.iload_n 2, 1) := by decide +kernel
theorem dX4_occursWithin_42 : decode cX4_occursWithin 42 = .ok (.iload_n 3, 1) := by decide +kernel
theorem dX4_occursWithin_43 : decode cX4_occursWithin 43 = .ok (.iload 4, 2) := by decide +kernel
theorem dX4_occursWithin_45 : decode cX4_occursWithin 45 = .ok (.iadd, 1) := by decide +kernel
theorem dX4_occursWithin_46 : decode cX4_occursWithin 46 = .ok (.invokevirtual 73, 3) := by decide +kernel
theorem dX4_occursWithin_49 : decode cX4_occursWithin 49 = .ok (.invokevirtual 57, 3) := by decide +kernel
theorem dX4_occursWithin_52 : decode cX4_occursWithin 52 = .ok (.if_icmp .eq 5, 3) := by decide +kernel
theorem dX4_occursWithin_55 : decode cX4_occursWithin 55 = .ok (.iconst 0, 1) := by decide +kernel
theorem dX4_occursWithin_56 : decode cX4_occursWithin 56 = .ok (.ireturn, 1) := by decide +kernel
theorem dX4_occursWithin_57 : decode cX4_occursWithin 57 = .ok (.iinc 4 1, 3) := by decide +kernel
theorem dX4_occursWithin_60 : decode cX4_occursWithin 60 = .ok (.goto (-57), 3) := by decide +kernel
theorem dX4_occursWithin_63 : decode cX4_occursWithin 63 = .ok (.iconst 1, 1) := by decide +kernel
theorem dX4_occursWithin_64 : decode cX4_occursWithin 64 = .ok (.ireturn, 1) := by decide +kernel
theorem dX4_copyFrom_0 : decode cX4_copyFrom 0 = .ok (.aload_n 0, 1) := by decide +kernel
theorem dX4_copyFrom_1 : decode cX4_copyFrom 1 = .ok (.getfield 12, 3) := by decide +kernel
theorem dX4_copyFrom_4 : decode cX4_copyFrom 4 = .ok (.aload_n 1, 1) := by decide +kernel
theorem dX4_copyFrom_5 : decode cX4_copyFrom 5 = .ok (.getfield 12, 3) := by decide +kernel
theorem dX4_copyFrom_8 : decode cX4_copyFrom 8 = .ok (.invokevirtual 89, 3) := by decide +kernel
theorem dX4_copyFrom_11 : decode cX4_copyFrom 11 = .ok (.aload_n 0, 1) := by decide +kernel
theorem dX4_copyFrom_12 : decode cX4_copyFrom 12 = .ok (.getfield 21, 3) := by decide +kernel
theorem dX4_copyFrom_15 : decode cX4_copyFrom 15 = .ok (.aload_n 1, 1) := by decide +kernel
theorem dX4_copyFrom_16 : decode cX4_copyFrom 16 = .ok (.getfield 21, 3) := by decide +kernel
theorem dX4_copyFrom_19 : decode cX4_copyFrom 19 = .ok (.invokevirtual 44, 3) := by decide +kernel
theorem dX4_copyFrom_22 : decode cX4_copyFrom 22 = .ok (.aload_n 0, 1) := by decide +kernel
theorem dX4_copyFrom_23 : decode cX4_copyFrom 23 = .ok (.getfield 28, 3) := by decide +kernel
theorem dX4_copyFrom_26 : decode cX4_copyFrom 26 = .ok (.aload_n 1, 1) := by decide +kernel
theorem dX4_copyFrom_27 : decode cX4_copyFrom 27 = .ok (.getfield 28, 3) := by decide +kernel
theorem dX4_copyFrom_30 : decode cX4_copyFrom 30 = .ok (.invokevirtual 92, 3) := by decide +kernel
theorem dX4_copyFrom_33 : decode cX4_copyFrom 33 = .ok (.iconst 0, 1) := by decide +kernel
theorem dX4_copyFrom_34 : decode cX4_copyFrom 34 = .ok (.istore_n 2, 1) := by decide +kernel
theorem dX4_copyFrom_35 : decode cX4_copyFrom 35 = .ok (.iload_n 2, 1) := by decide +kernel
theorem dX4_copyFrom_36 : decode cX4_copyFrom 36 = .ok (.iconst 2, 1) := by decide +kernel
theorem dX4_copyFrom_37 : decode cX4_copyFrom 37 = .ok (.if_icmp .ge 36, 3) := by decide +kernel
theorem dX4_copyFrom_40 : decode cX4_copyFrom 40 = .ok (.aload_n 0, 1) := by decide +kernel
theorem dX4_copyFrom_41 : decode cX4_copyFrom 41 = .ok (.getfield 32, 3) := by decide +kernel
theorem dX4_copyFrom_44 : decode cX4_copyFrom 44 = .ok (.iload_n 2, 1) := by decide +kernel
theorem dX4_copyFrom_45 : decode cX4_copyFrom 45 = .ok (.aaload, 1) := by decide +kernel
theorem dX4_copyFrom_46 : decode cX4_copyFrom 46 = .ok (.aload_n 1, 1) := by decide +kernel
theorem dX4_copyFrom_47 : decode cX4_copyFrom 47 = .ok (.getfield 32, 3) := by decide +kernel
theorem dX4_copyFrom_50 : decode cX4_copyFrom 50 = .ok (.iload_n 2, 1) := by decide +kernel
theorem dX4_copyFrom_51 : decode cX4_copyFrom 51 = .ok (.aaload, 1) := by decide +kernel
theorem dX4_copyFrom_52 : decode cX4_copyFrom 52 = .ok (.invokevirtual 44, 3) := by decide +kernel
theorem dX4_copyFrom_55 : decode cX4_copyFrom 55 = .ok (.aload_n 0, 1) := by decide +kernel
theorem dX4_copyFrom_56 : decode cX4_copyFrom 56 = .ok (.getfield 36, 3) := by decide +kernel
theorem dX4_copyFrom_59 : decode cX4_copyFrom 59 = .ok (.iload_n 2, 1) := by decide +kernel
theorem dX4_copyFrom_60 : decode cX4_copyFrom 60 = .ok (.aload_n 1, 1) := by decide +kernel
theorem dX4_copyFrom_61 : decode cX4_copyFrom 61 = .ok (.getfield 36, 3) := by decide +kernel
theorem dX4_copyFrom_64 : decode cX4_copyFrom 64 = .ok (.iload_n 2, 1) := by decide +kernel
theorem dX4_copyFrom_65 : decode cX4_copyFrom 65 = .ok (.baload, 1) := by decide +kernel
theorem dX4_copyFrom_66 : decode cX4_copyFrom 66 = .ok (.bastore, 1) := by decide +kernel
theorem dX4_copyFrom_67 : decode cX4_copyFrom 67 = .ok (.iinc 2 1, 3) := by decide +kernel
theorem dX4_copyFrom_70 : decode cX4_copyFrom 70 = .ok (.goto (-35), 3) := by decide +kernel
theorem dX4_copyFrom_73 : decode cX4_copyFrom 73 = .ok (.return_, 1) := by decide +kernel
theorem dX5_init_0 : decode cX5_init 0 = .ok (.aload_n 0, 1) := by decide +kernel
theorem dX5_init_1 : decode cX5_init 1 = .ok (.invokespecial 5, 3) := by decide +kernel
theorem dX5_init_4 : decode cX5_init 4 = .ok (.aload_n 0, 1) := by decide +kernel
theorem dX5_init_5 : decode cX5_init 5 = .ok (.bipush 13, 2) := by decide +kernel
theorem dX5_init_7 : decode cX5_init 7 = .ok (.iconst 4, 1) := by decide +kernel
theorem dX5_init_8 : decode cX5_init 8 = .ok (.multianewarray 11 2, 4) := by decide +kernel
theorem dX5_init_12 : decode cX5_init 12 = .ok (.putfield 13, 3) := by decide +kernel
theorem dX5_init_15 : decode cX5_init 15 = .ok (.aload_n 0, 1) := by decide +kernel
theorem dX5_init_16 : decode cX5_init 16 = .ok (.bipush 13, 2) := by decide +kernel
theorem dX5_init_18 : decode cX5_init 18 = .ok (.newarray .int, 2) := by decide +kernel
theorem dX5_init_20 : decode cX5_init 20 = .ok (.putfield 16, 3) := by decide +kernel
theorem dX5_init_23 : decode cX5_init 23 = .ok (.aload_n 0, 1) := by decide +kernel
theorem dX5_init_24 : decode cX5_init 24 = .ok (.bipush 13, 2) := by decide +kernel
theorem dX5_init_26 : decode cX5_init 26 = .ok (.newarray .boolean, 2) := by decide +kernel
theorem dX5_init_28 : decode cX5_init 28 = .ok (.putfield 20, 3) := by decide +kernel
theorem dX5_init_31 : decode cX5_init 31 = .ok (.aload_n 0, 1) := by decide +kernel
theorem dX5_init_32 : decode cX5_init 32 = .ok (.iconst 0, 1) := by decide +kernel
theorem dX5_init_33 : decode cX5_init 33 = .ok (.putfield 24, 3) := by decide +kernel
theorem dX5_init_36 : decode cX5_init 36 = .ok (.return_, 1) := by decide +kernel
theorem dX5_size_0 : decode cX5_size 0 = .ok (.aload_n 0, 1) := by decide +kernel
theorem dX5_size_1 : decode cX5_size 1 = .ok (.getfield 24, 3) := by decide +kernel
theorem dX5_size_4 : decode cX5_size 4 = .ok (.ireturn, 1) := by decide +kernel
theorem dX5_has_0 : decode cX5_has 0 = .ok (.iload_n 1, 1) := by decide +kernel
theorem dX5_has_1 : decode cX5_has 1 = .ok (.ifCond .lt 15, 3) := by decide +kernel
theorem dX5_has_4 : decode cX5_has 4 = .ok (.iload_n 1, 1) := by decide +kernel
theorem dX5_has_5 : decode cX5_has 5 = .ok (.aload_n 0, 1) := by decide +kernel
theorem dX5_has_6 : decode cX5_has 6 = .ok (.getfield 24, 3) := by decide +kernel
theorem dX5_has_9 : decode cX5_has 9 = .ok (.if_icmp .ge 7, 3) := by decide +kernel
theorem dX5_has_12 : decode cX5_has 12 = .ok (.iconst 1, 1) := by decide +kernel
theorem dX5_has_13 : decode cX5_has 13 = .ok (.goto 4, 3) := by decide +kernel
theorem dX5_has_16 : decode cX5_has 16 = .ok (.iconst 0, 1) := by decide +kernel
theorem dX5_has_17 : decode cX5_has 17 = .ok (.ireturn, 1) := by decide +kernel
theorem dX5_lengthOf_0 : decode cX5_lengthOf 0 = .ok (.iload_n 1, 1) := by decide +kernel
theorem dX5_lengthOf_1 : decode cX5_lengthOf 1 = .ok (.ifCond .lt 20, 3) := by decide +kernel
theorem dX5_lengthOf_4 : decode cX5_lengthOf 4 = .ok (.iload_n 1, 1) := by decide +kernel
theorem dX5_lengthOf_5 : decode cX5_lengthOf 5 = .ok (.aload_n 0, 1) := by decide +kernel
theorem dX5_lengthOf_6 : decode cX5_lengthOf 6 = .ok (.getfield 24, 3) := by decide +kernel
theorem dX5_lengthOf_9 : decode cX5_lengthOf 9 = .ok (.if_icmp .ge 12, 3) := by decide +kernel
theorem dX5_lengthOf_12 : decode cX5_lengthOf 12 = .ok (.aload_n 0, 1) := by decide +kernel
theorem dX5_lengthOf_13 : decode cX5_lengthOf 13 = .ok (.getfield 16, 3) := by decide +kernel
theorem dX5_lengthOf_16 : decode cX5_lengthOf 16 = .ok (.iload_n 1, 1) := by decide +kernel
theorem dX5_lengthOf_17 : decode cX5_lengthOf 17 = .ok (.iaload, 1) := by decide +kernel
theorem dX5_lengthOf_18 : decode cX5_lengthOf 18 = .ok (.goto 4, 3) := by decide +kernel
theorem dX5_lengthOf_21 : decode cX5_lengthOf 21 = .ok (.iconst 0, 1) := by decide +kernel
theorem dX5_lengthOf_22 : decode cX5_lengthOf 22 = .ok (.ireturn, 1) := by decide +kernel
theorem dX5_wordAt_0 : decode cX5_wordAt 0 = .ok (.iload_n 1, 1) := by decide +kernel
theorem dX5_wordAt_1 : decode cX5_wordAt 1 = .ok (.ifCond .lt 25, 3) := by decide +kernel
theorem dX5_wordAt_4 : decode cX5_wordAt 4 = .ok (.iload_n 1, 1) := by decide +kernel
theorem dX5_wordAt_5 : decode cX5_wordAt 5 = .ok (.aload_n 0, 1) := by decide +kernel
theorem dX5_wordAt_6 : decode cX5_wordAt 6 = .ok (.getfield 24, 3) := by decide +kernel
theorem dX5_wordAt_9 : decode cX5_wordAt 9 = .ok (.if_icmp .ge 17, 3) := by decide +kernel
theorem dX5_wordAt_12 : decode cX5_wordAt 12 = .ok (.iload_n 2, 1) := by decide +kernel
theorem dX5_wordAt_13 : decode cX5_wordAt 13 = .ok (.ifCond .lt 13, 3) := by decide +kernel
theorem dX5_wordAt_16 : decode cX5_wordAt 16 = .ok (.iload_n 2, 1) := by decide +kernel
theorem dX5_wordAt_17 : decode cX5_wordAt 17 = .ok (.aload_n 0, 1) := by decide +kernel
theorem dX5_wordAt_18 : decode cX5_wordAt 18 = .ok (.getfield 16, 3) := by decide +kernel
theorem dX5_wordAt_21 : decode cX5_wordAt 21 = .ok (.iload_n 1, 1) := by decide +kernel
theorem dX5_wordAt_22 : decode cX5_wordAt 22 = .ok (.iaload, 1) := by decide +kernel
theorem dX5_wordAt_23 : decode cX5_wordAt 23 = .ok (.if_icmp .lt 6, 3) := by decide +kernel
theorem dX5_wordAt_26 : decode cX5_wordAt 26 = .ok (.bipush (-99), 2) := by decide +kernel
theorem dX5_wordAt_28 : decode cX5_wordAt 28 = .ok (.ireturn, 1) := by decide +kernel
theorem dX5_wordAt_29 : decode cX5_wordAt 29 = .ok (.aload_n 0, 1) := by decide +kernel
theorem dX5_wordAt_30 : decode cX5_wordAt 30 = .ok (.getfield 13, 3) := by decide +kernel
theorem dX5_wordAt_33 : decode cX5_wordAt 33 = .ok (.iload_n 1, 1) := by decide +kernel
theorem dX5_wordAt_34 : decode cX5_wordAt 34 = .ok (.aaload, 1) := by decide +kernel
theorem dX5_wordAt_35 : decode cX5_wordAt 35 = .ok (.iload_n 2, 1) := by decide +kernel
theorem dX5_wordAt_36 : decode cX5_wordAt 36 = .ok (.iaload, 1) := by decide +kernel
theorem dX5_wordAt_37 : decode cX5_wordAt 37 = .ok (.ireturn, 1) := by decide +kernel
theorem dX5_isQuiet_0 : decode cX5_isQuiet 0 = .ok (.aload_n 0, 1) := by decide +kernel
theorem dX5_isQuiet_1 : decode cX5_isQuiet 1 = .ok (.iload_n 1, 1) := by decide +kernel
theorem dX5_isQuiet_2 : decode cX5_isQuiet 2 = .ok (.invokevirtual 28, 3) := by decide +kernel
theorem dX5_isQuiet_5 : decode cX5_isQuiet 5 = .ok (.ifCond .eq 16, 3) := by decide +kernel
theorem dX5_isQuiet_8 : decode cX5_isQuiet 8 = .ok (.aload_n 0, 1) := by decide +kernel
theorem dX5_isQuiet_9 : decode cX5_isQuiet 9 = .ok (.getfield 20, 3) := by decide +kernel
theorem dX5_isQuiet_12 : decode cX5_isQuiet 12 = .ok (.iload_n 1, 1) := by decide +kernel
theorem dX5_isQuiet_13 : decode cX5_isQuiet 13 = .ok (.baload, 1) := by decide +kernel
theorem dX5_isQuiet_14 : decode cX5_isQuiet 14 = .ok (.ifCond .eq 7, 3) := by decide +kernel
theorem dX5_isQuiet_17 : decode cX5_isQuiet 17 = .ok (.iconst 1, 1) := by decide +kernel
theorem dX5_isQuiet_18 : decode cX5_isQuiet 18 = .ok (.goto 4, 3) := by decide +kernel
theorem dX5_isQuiet_21 : decode cX5_isQuiet 21 = .ok (.iconst 0, 1) := by decide +kernel
theorem dX5_isQuiet_22 : decode cX5_isQuiet 22 = .ok (.ireturn, 1) := by decide +kernel
theorem dX5_quietCount_0 : decode cX5_quietCount 0 = .ok (.iconst 0, 1) := by decide +kernel
theorem dX5_quietCount_1 : decode cX5_quietCount 1 = .ok (.istore_n 1, 1) := by decide +kernel
theorem dX5_quietCount_2 : decode cX5_quietCount 2 = .ok (.iconst 0, 1) := by decide +kernel
theorem dX5_quietCount_3 : decode cX5_quietCount 3 = .ok (.istore_n 2, 1) := by decide +kernel
theorem dX5_quietCount_4 : decode cX5_quietCount 4 = .ok (.iload_n 2, 1) := by decide +kernel
theorem dX5_quietCount_5 : decode cX5_quietCount 5 = .ok (.aload_n 0, 1) := by decide +kernel
theorem dX5_quietCount_6 : decode cX5_quietCount 6 = .ok (.getfield 24, 3) := by decide +kernel
theorem dX5_quietCount_9 : decode cX5_quietCount 9 = .ok (.if_icmp .ge 21, 3) := by decide +kernel
theorem dX5_quietCount_12 : decode cX5_quietCount 12 = .ok (.aload_n 0, 1) := by decide +kernel
theorem dX5_quietCount_13 : decode cX5_quietCount 13 = .ok (.getfield 20, 3) := by decide +kernel
theorem dX5_quietCount_16 : decode cX5_quietCount 16 = .ok (.iload_n 2, 1) := by decide +kernel
theorem dX5_quietCount_17 : decode cX5_quietCount 17 = .ok (.baload, 1) := by decide +kernel
theorem dX5_quietCount_18 : decode cX5_quietCount 18 = .ok (.ifCond .eq 6, 3) := by decide +kernel
theorem dX5_quietCount_21 : decode cX5_quietCount 21 = .ok (.iinc 1 1, 3) := by decide +kernel
theorem dX5_quietCount_24 : decode cX5_quietCount 24 = .ok (.iinc 2 1, 3) := by decide +kernel
theorem dX5_quietCount_27 : decode cX5_quietCount 27 = .ok (.goto (-23), 3) := by decide +kernel
theorem dX5_quietCount_30 : decode cX5_quietCount 30 = .ok (.iload_n 1, 1) := by decide +kernel
theorem dX5_quietCount_31 : decode cX5_quietCount 31 = .ok (.ireturn, 1) := by decide +kernel
theorem dX5_hush_0 : decode cX5_hush 0 = .ok (.aload_n 0, 1) := by decide +kernel
theorem dX5_hush_1 : decode cX5_hush 1 = .ok (.iload_n 1, 1) := by decide +kernel
theorem dX5_hush_2 : decode cX5_hush 2 = .ok (.invokevirtual 28, 3) := by decide +kernel
theorem dX5_hush_5 : decode cX5_hush 5 = .ok (.ifCond .eq 10, 3) := by decide +kernel
theorem dX5_hush_8 : decode cX5_hush 8 = .ok (.aload_n 0, 1) := by decide +kernel
theorem dX5_hush_9 : decode cX5_hush 9 = .ok (.getfield 20, 3) := by decide +kernel
theorem dX5_hush_12 : decode cX5_hush 12 = .ok (.iload_n 1, 1) := by decide +kernel
theorem dX5_hush_13 : decode cX5_hush 13 = .ok (.iload_n 2, 1) := by decide +kernel
theorem dX5_hush_14 : decode cX5_hush 14 = .ok (.bastore, 1) := by decide +kernel
theorem dX5_hush_15 : decode cX5_hush 15 = .ok (.return_, 1) := by decide +kernel
theorem dX5_add_0 : decode cX5_add 0 = .ok (.aload_n 0, 1) := by decide +kernel
theorem dX5_add_1 : decode cX5_add 1 = .ok (.getfield 24, 3) := by decide +kernel
theorem dX5_add_4 : decode cX5_add 4 = .ok (.bipush 13, 2) := by decide +kernel
theorem dX5_add_6 : decode cX5_add 6 = .ok (.if_icmp .ge 19, 3) := by decide +kernel
theorem dX5_add_9 : decode cX5_add 9 = .ok (.iload_n 2, 1) := by decide +kernel
theorem dX5_add_10 : decode cX5_add 10 = .ok (.iconst 1, 1) := by decide +kernel
theorem dX5_add_11 : decode cX5_add 11 = .ok (.if_icmp .lt 14, 3) := by decide +kernel
theorem dX5_add_14 : decode cX5_add 14 = .ok (.iload_n 2, 1) := by decide +kernel
theorem dX5_add_15 : decode cX5_add 15 = .ok (.iconst 4, 1) := by decide +kernel
theorem dX5_add_16 : decode cX5_add 16 = .ok (.if_icmp .gt 9, 3) := by decide +kernel
theorem dX5_add_19 : decode cX5_add 19 = .ok (.iload_n 2, 1) := by decide +kernel
theorem dX5_add_20 : decode cX5_add 20 = .ok (.aload_n 1, 1) := by decide +kernel
theorem dX5_add_21 : decode cX5_add 21 = .ok (.arraylength, 1) := by decide +kernel
theorem dX5_add_22 : decode cX5_add 22 = .ok (.if_icmp .le 4, 3) := by decide +kernel
theorem dX5_add_25 : decode cX5_add 25 = .ok (.return_, 1) := by decide +kernel
theorem dX5_add_26 : decode cX5_add 26 = .ok (.aload_n 1, 1) := by decide +kernel
theorem dX5_add_27 : decode cX5_add 27 = .ok (.iconst 0, 1) := by decide +kernel
theorem dX5_add_28 : decode cX5_add 28 = .ok (.aload_n 0, 1) := by decide +kernel
theorem dX5_add_29 : decode cX5_add 29 = .ok (.getfield 13, 3) := by decide +kernel
theorem dX5_add_32 : decode cX5_add 32 = .ok (.aload_n 0, 1) := by decide +kernel
theorem dX5_add_33 : decode cX5_add 33 = .ok (.getfield 24, 3) := by decide +kernel
theorem dX5_add_36 : decode cX5_add 36 = .ok (.aaload, 1) := by decide +kernel
theorem dX5_add_37 : decode cX5_add 37 = .ok (.iconst 0, 1) := by decide +kernel
theorem dX5_add_38 : decode cX5_add 38 = .ok (.iload_n 2, 1) := by decide +kernel
theorem dX5_add_39 : decode cX5_add 39 = .ok (.invokestatic 32, 3) := by decide +kernel
theorem dX5_add_42 : decode cX5_add 42 = .ok (.aload_n 0, 1) := by decide +kernel
theorem dX5_add_43 : decode cX5_add 43 = .ok (.getfield 16, 3) := by decide +kernel
theorem dX5_add_46 : decode cX5_add 46 = .ok (.aload_n 0, 1) := by decide +kernel
theorem dX5_add_47 : decode cX5_add 47 = .ok (.getfield 24, 3) := by decide +kernel
theorem dX5_add_50 : decode cX5_add 50 = .ok (.iload_n 2, 1) := by decide +kernel
theorem dX5_add_51 : decode cX5_add 51 = .ok (.iastore, 1) := by decide +kernel
theorem dX5_add_52 : decode cX5_add 52 = .ok (.aload_n 0, 1) := by decide +kernel
theorem dX5_add_53 : decode cX5_add 53 = .ok (.getfield 20, 3) := by decide +kernel
theorem dX5_add_56 : decode cX5_add 56 = .ok (.aload_n 0, 1) := by decide +kernel
theorem dX5_add_57 : decode cX5_add 57 = .ok (.getfield 24, 3) := by decide +kernel
theorem dX5_add_60 : decode cX5_add 60 = .ok (.iconst 0, 1) := by decide +kernel
theorem dX5_add_61 : decode cX5_add 61 = .ok (.bastore, 1) := by decide +kernel
theorem dX5_add_62 : decode cX5_add 62 = .ok (.aload_n 0, 1) := by decide +kernel
theorem dX5_add_63 : decode cX5_add 63 = .ok (.dup, 1) := by decide +kernel
theorem dX5_add_64 : decode cX5_add 64 = .ok (.getfield 24, 3) := by decide +kernel
theorem dX5_add_67 : decode cX5_add 67 = .ok (.iconst 1, 1) := by decide +kernel
theorem dX5_add_68 : decode cX5_add 68 = .ok (.iadd, 1) := by decide +kernel
theorem dX5_add_69 : decode cX5_add 69 = .ok (.putfield 24, 3) := by decide +kernel
theorem dX5_add_72 : decode cX5_add 72 = .ok (.return_, 1) := by decide +kernel
theorem dX5_drop_0 : decode cX5_drop 0 = .ok (.aload_n 0, 1) := by decide +kernel
theorem dX5_drop_1 : decode cX5_drop 1 = .ok (.iload_n 1, 1) := by decide +kernel
theorem dX5_drop_2 : decode cX5_drop 2 = .ok (.invokevirtual 28, 3) := by decide +kernel
theorem dX5_drop_5 : decode cX5_drop 5 = .ok (.ifCond .ne 4, 3) := by decide +kernel
theorem dX5_drop_8 : decode cX5_drop 8 = .ok (.return_, 1) := by decide +kernel
theorem dX5_drop_9 : decode cX5_drop 9 = .ok (.aload_n 0, 1) := by decide +kernel
theorem dX5_drop_10 : decode cX5_drop 10 = .ok (.getfield 13, 3) := by decide +kernel
theorem dX5_drop_13 : decode cX5_drop 13 = .ok (.iload_n 1, 1) := by decide +kernel
theorem dX5_drop_14 : decode cX5_drop 14 = .ok (.aaload, 1) := by decide +kernel
theorem dX5_drop_15 : decode cX5_drop 15 = .ok (.astore_n 2, 1) := by decide +kernel
theorem dX5_drop_16 : decode cX5_drop 16 = .ok (.iload_n 1, 1) := by decide +kernel
theorem dX5_drop_17 : decode cX5_drop 17 = .ok (.iconst 1, 1) := by decide +kernel
theorem dX5_drop_18 : decode cX5_drop 18 = .ok (.iadd, 1) := by decide +kernel
theorem dX5_drop_19 : decode cX5_drop 19 = .ok (.istore_n 3, 1) := by decide +kernel
theorem dX5_drop_20 : decode cX5_drop 20 = .ok (.iload_n 3, 1) := by decide +kernel
theorem dX5_drop_21 : decode cX5_drop 21 = .ok (.aload_n 0, 1) := by decide +kernel
theorem dX5_drop_22 : decode cX5_drop 22 = .ok (.getfield 24, 3) := by decide +kernel
theorem dX5_drop_25 : decode cX5_drop 25 = .ok (.if_icmp .ge 51, 3) := by decide +kernel
theorem dX5_drop_28 : decode cX5_drop 28 = .ok (.aload_n 0, 1) := by decide +kernel
theorem dX5_drop_29 : decode cX5_drop 29 = .ok (.getfield 13, 3) := by decide +kernel
theorem dX5_drop_32 : decode cX5_drop 32 = .ok (.iload_n 3, 1) := by decide +kernel
theorem dX5_drop_33 : decode cX5_drop 33 = .ok (.iconst 1, 1) := by decide +kernel
theorem dX5_drop_34 : decode cX5_drop 34 = .ok (.isub, 1) := by decide +kernel
theorem dX5_drop_35 : decode cX5_drop 35 = .ok (.aload_n 0, 1) := by decide +kernel
theorem dX5_drop_36 : decode cX5_drop 36 = .ok (.getfield 13, 3) := by decide +kernel
theorem dX5_drop_39 : decode cX5_drop 39 = .ok (.iload_n 3, 1) := by decide +kernel
theorem dX5_drop_40 : decode cX5_drop 40 = .ok (.aaload, 1) := by decide +kernel
theorem dX5_drop_41 : decode cX5_drop 41 = .ok (.aastore, 1) := by decide +kernel
theorem dX5_drop_42 : decode cX5_drop 42 = .ok (.aload_n 0, 1) := by decide +kernel
theorem dX5_drop_43 : decode cX5_drop 43 = .ok (.getfield 16, 3) := by decide +kernel
theorem dX5_drop_46 : decode cX5_drop 46 = .ok (.iload_n 3, 1) := by decide +kernel
theorem dX5_drop_47 : decode cX5_drop 47 = .ok (.iconst 1, 1) := by decide +kernel
theorem dX5_drop_48 : decode cX5_drop 48 = .ok (.isub, 1) := by decide +kernel
theorem dX5_drop_49 : decode cX5_drop 49 = .ok (.aload_n 0, 1) := by decide +kernel
theorem dX5_drop_50 : decode cX5_drop 50 = .ok (.getfield 16, 3) := by decide +kernel
theorem dX5_drop_53 : decode cX5_drop 53 = .ok (.iload_n 3, 1) := by decide +kernel
theorem dX5_drop_54 : decode cX5_drop 54 = .ok (.iaload, 1) := by decide +kernel
theorem dX5_drop_55 : decode cX5_drop 55 = .ok (.iastore, 1) := by decide +kernel
theorem dX5_drop_56 : decode cX5_drop 56 = .ok (.aload_n 0, 1) := by decide +kernel
theorem dX5_drop_57 : decode cX5_drop 57 = .ok (.getfield 20, 3) := by decide +kernel
theorem dX5_drop_60 : decode cX5_drop 60 = .ok (.iload_n 3, 1) := by decide +kernel
theorem dX5_drop_61 : decode cX5_drop 61 = .ok (.iconst 1, 1) := by decide +kernel
theorem dX5_drop_62 : decode cX5_drop 62 = .ok (.isub, 1) := by decide +kernel
theorem dX5_drop_63 : decode cX5_drop 63 = .ok (.aload_n 0, 1) := by decide +kernel
theorem dX5_drop_64 : decode cX5_drop 64 = .ok (.getfield 20, 3) := by decide +kernel
theorem dX5_drop_67 : decode cX5_drop 67 = .ok (.iload_n 3, 1) := by decide +kernel
theorem dX5_drop_68 : decode cX5_drop 68 = .ok (.baload, 1) := by decide +kernel
theorem dX5_drop_69 : decode cX5_drop 69 = .ok (.bastore, 1) := by decide +kernel
theorem dX5_drop_70 : decode cX5_drop 70 = .ok (.iinc 3 1, 3) := by decide +kernel
theorem dX5_drop_73 : decode cX5_drop 73 = .ok (.goto (-53), 3) := by decide +kernel
theorem dX5_drop_76 : decode cX5_drop 76 = .ok (.aload_n 0, 1) := by decide +kernel
theorem dX5_drop_77 : decode cX5_drop 77 = .ok (.dup, 1) := by decide +kernel
theorem dX5_drop_78 : decode cX5_drop 78 = .ok (.getfield 24, 3) := by decide +kernel
theorem dX5_drop_81 : decode cX5_drop 81 = .ok (.iconst 1, 1) := by decide +kernel
theorem dX5_drop_82 : decode cX5_drop 82 = .ok (.isub, 1) := by decide +kernel
theorem dX5_drop_83 : decode cX5_drop 83 = .ok (.putfield 24, 3) := by decide +kernel
theorem dX5_drop_86 : decode cX5_drop 86 = .ok (.aload_n 0, 1) := by decide +kernel
theorem dX5_drop_87 : decode cX5_drop 87 = .ok (.getfield 13, 3) := by decide +kernel
theorem dX5_drop_90 : decode cX5_drop 90 = .ok (.aload_n 0, 1) := by decide +kernel
theorem dX5_drop_91 : decode cX5_drop 91 = .ok (.getfield 24, 3) := by decide +kernel
theorem dX5_drop_94 : decode cX5_drop 94 = .ok (.aload_n 2, 1) := by decide +kernel
theorem dX5_drop_95 : decode cX5_drop 95 = .ok (.aastore, 1) := by decide +kernel
theorem dX5_drop_96 : decode cX5_drop 96 = .ok (.return_, 1) := by decide +kernel
theorem dX5_hasLike_0 : decode cX5_hasLike 0 = .ok (.iconst 0, 1) := by decide +kernel
theorem dX5_hasLike_1 : decode cX5_hasLike 1 = .ok (.istore 4, 2) := by decide +kernel
theorem dX5_hasLike_3 : decode cX5_hasLike 3 = .ok (.iload 4, 2) := by decide +kernel
theorem dX5_hasLike_5 : decode cX5_hasLike 5 = .ok (.aload_n 0, 1) := by decide +kernel
theorem dX5_hasLike_6 : decode cX5_hasLike 6 = .ok (.getfield 24, 3) := by decide +kernel
theorem dX5_hasLike_9 : decode cX5_hasLike 9 = .ok (.if_icmp .ge 38, 3) := by decide +kernel
theorem dX5_hasLike_12 : decode cX5_hasLike 12 = .ok (.aload_n 0, 1) := by decide +kernel
theorem dX5_hasLike_13 : decode cX5_hasLike 13 = .ok (.getfield 16, 3) := by decide +kernel
theorem dX5_hasLike_16 : decode cX5_hasLike 16 = .ok (.iload 4, 2) := by decide +kernel
theorem dX5_hasLike_18 : decode cX5_hasLike 18 = .ok (.iaload, 1) := by decide +kernel
theorem dX5_hasLike_19 : decode cX5_hasLike 19 = .ok (.iload_n 3, 1) := by decide +kernel
theorem dX5_hasLike_20 : decode cX5_hasLike 20 = .ok (.if_icmp .ne 21, 3) := by decide +kernel
theorem dX5_hasLike_23 : decode cX5_hasLike 23 = .ok (.aload_n 1, 1) := by decide +kernel
theorem dX5_hasLike_24 : decode cX5_hasLike 24 = .ok (.aload_n 0, 1) := by decide +kernel
theorem dX5_hasLike_25 : decode cX5_hasLike 25 = .ok (.getfield 13, 3) := by decide +kernel
theorem dX5_hasLike_28 : decode cX5_hasLike 28 = .ok (.iload 4, 2) := by decide +kernel
theorem dX5_hasLike_30 : decode cX5_hasLike 30 = .ok (.aaload, 1) := by decide +kernel
theorem dX5_hasLike_31 : decode cX5_hasLike 31 = .ok (.aload_n 2, 1) := by decide +kernel
theorem dX5_hasLike_32 : decode cX5_hasLike 32 = .ok (.iload_n 3, 1) := by decide +kernel
theorem dX5_hasLike_33 : decode cX5_hasLike 33 = .ok (.invokestatic 38, 3) := by decide +kernel
theorem dX5_hasLike_36 : decode cX5_hasLike 36 = .ok (.ifCond .eq 5, 3) := by decide +kernel
theorem dX5_hasLike_39 : decode cX5_hasLike 39 = .ok (.iconst 1, 1) := by decide +kernel
theorem dX5_hasLike_40 : decode cX5_hasLike 40 = .ok (.ireturn, 1) := by decide +kernel
theorem dX5_hasLike_41 : decode cX5_hasLike 41 = .ok (.iinc 4 1, 3) := by decide +kernel
theorem dX5_hasLike_44 : decode cX5_hasLike 44 = .ok (.goto (-41), 3) := by decide +kernel
theorem dX5_hasLike_47 : decode cX5_hasLike 47 = .ok (.iconst 0, 1) := by decide +kernel
theorem dX5_hasLike_48 : decode cX5_hasLike 48 = .ok (.ireturn, 1) := by decide +kernel
theorem dX5_twoAreAlike_0 : decode cX5_twoAreAlike 0 = .ok (.iconst 0, 1) := by decide +kernel
theorem dX5_twoAreAlike_1 : decode cX5_twoAreAlike 1 = .ok (.istore_n 2, 1) := by decide +kernel
theorem dX5_twoAreAlike_2 : decode cX5_twoAreAlike 2 = .ok (.iload_n 2, 1) := by decide +kernel
theorem dX5_twoAreAlike_3 : decode cX5_twoAreAlike 3 = .ok (.aload_n 0, 1) := by decide +kernel
theorem dX5_twoAreAlike_4 : decode cX5_twoAreAlike 4 = .ok (.getfield 24, 3) := by decide +kernel
theorem dX5_twoAreAlike_7 : decode cX5_twoAreAlike 7 = .ok (.if_icmp .ge 69, 3) := by decide +kernel
theorem dX5_twoAreAlike_10 : decode cX5_twoAreAlike 10 = .ok (.iload_n 2, 1) := by decide +kernel
theorem dX5_twoAreAlike_11 : decode cX5_twoAreAlike 11 = .ok (.iconst 1, 1) := by decide +kernel
theorem dX5_twoAreAlike_12 : decode cX5_twoAreAlike 12 = .ok (.iadd, 1) := by decide +kernel
theorem dX5_twoAreAlike_13 : decode cX5_twoAreAlike 13 = .ok (.istore_n 3, 1) := by decide +kernel
theorem dX5_twoAreAlike_14 : decode cX5_twoAreAlike 14 = .ok (.iload_n 3, 1) := by decide +kernel
theorem dX5_twoAreAlike_15 : decode cX5_twoAreAlike 15 = .ok (.aload_n 0, 1) := by decide +kernel
theorem dX5_twoAreAlike_16 : decode cX5_twoAreAlike 16 = .ok (.getfield 24, 3) := by decide +kernel
theorem dX5_twoAreAlike_19 : decode cX5_twoAreAlike 19 = .ok (.if_icmp .ge 51, 3) := by decide +kernel
theorem dX5_twoAreAlike_22 : decode cX5_twoAreAlike 22 = .ok (.aload_n 0, 1) := by decide +kernel
theorem dX5_twoAreAlike_23 : decode cX5_twoAreAlike 23 = .ok (.getfield 16, 3) := by decide +kernel
theorem dX5_twoAreAlike_26 : decode cX5_twoAreAlike 26 = .ok (.iload_n 2, 1) := by decide +kernel
theorem dX5_twoAreAlike_27 : decode cX5_twoAreAlike 27 = .ok (.iaload, 1) := by decide +kernel
theorem dX5_twoAreAlike_28 : decode cX5_twoAreAlike 28 = .ok (.aload_n 0, 1) := by decide +kernel
theorem dX5_twoAreAlike_29 : decode cX5_twoAreAlike 29 = .ok (.getfield 16, 3) := by decide +kernel
theorem dX5_twoAreAlike_32 : decode cX5_twoAreAlike 32 = .ok (.iload_n 3, 1) := by decide +kernel
theorem dX5_twoAreAlike_33 : decode cX5_twoAreAlike 33 = .ok (.iaload, 1) := by decide +kernel
theorem dX5_twoAreAlike_34 : decode cX5_twoAreAlike 34 = .ok (.if_icmp .ne 30, 3) := by decide +kernel
theorem dX5_twoAreAlike_37 : decode cX5_twoAreAlike 37 = .ok (.aload_n 1, 1) := by decide +kernel
theorem dX5_twoAreAlike_38 : decode cX5_twoAreAlike 38 = .ok (.aload_n 0, 1) := by decide +kernel
theorem dX5_twoAreAlike_39 : decode cX5_twoAreAlike 39 = .ok (.getfield 13, 3) := by decide +kernel
theorem dX5_twoAreAlike_42 : decode cX5_twoAreAlike 42 = .ok (.iload_n 2, 1) := by decide +kernel
theorem dX5_twoAreAlike_43 : decode cX5_twoAreAlike 43 = .ok (.aaload, 1) := by decide +kernel
theorem dX5_twoAreAlike_44 : decode cX5_twoAreAlike 44 = .ok (.aload_n 0, 1) := by decide +kernel
theorem dX5_twoAreAlike_45 : decode cX5_twoAreAlike 45 = .ok (.getfield 13, 3) := by decide +kernel
theorem dX5_twoAreAlike_48 : decode cX5_twoAreAlike 48 = .ok (.iload_n 3, 1) := by decide +kernel
theorem dX5_twoAreAlike_49 : decode cX5_twoAreAlike 49 = .ok (.aaload, 1) := by decide +kernel
theorem dX5_twoAreAlike_50 : decode cX5_twoAreAlike 50 = .ok (.aload_n 0, 1) := by decide +kernel
theorem dX5_twoAreAlike_51 : decode cX5_twoAreAlike 51 = .ok (.getfield 16, 3) := by decide +kernel
theorem dX5_twoAreAlike_54 : decode cX5_twoAreAlike 54 = .ok (.iload_n 2, 1) := by decide +kernel
theorem dX5_twoAreAlike_55 : decode cX5_twoAreAlike 55 = .ok (.iaload, 1) := by decide +kernel
theorem dX5_twoAreAlike_56 : decode cX5_twoAreAlike 56 = .ok (.invokestatic 38, 3) := by decide +kernel
theorem dX5_twoAreAlike_59 : decode cX5_twoAreAlike 59 = .ok (.ifCond .eq 5, 3) := by decide +kernel
theorem dX5_twoAreAlike_62 : decode cX5_twoAreAlike 62 = .ok (.iconst 1, 1) := by decide +kernel
theorem dX5_twoAreAlike_63 : decode cX5_twoAreAlike 63 = .ok (.ireturn, 1) := by decide +kernel
theorem dX5_twoAreAlike_64 : decode cX5_twoAreAlike 64 = .ok (.iinc 3 1, 3) := by decide +kernel
theorem dX5_twoAreAlike_67 : decode cX5_twoAreAlike 67 = .ok (.goto (-53), 3) := by decide +kernel
theorem dX5_twoAreAlike_70 : decode cX5_twoAreAlike 70 = .ok (.iinc 2 1, 3) := by decide +kernel
theorem dX5_twoAreAlike_73 : decode cX5_twoAreAlike 73 = .ok (.goto (-71), 3) := by decide +kernel
theorem dX5_twoAreAlike_76 : decode cX5_twoAreAlike 76 = .ok (.iconst 0, 1) := by decide +kernel
theorem dX5_twoAreAlike_77 : decode cX5_twoAreAlike 77 = .ok (.ireturn, 1) := by decide +kernel
theorem dX5_sameBases_0 : decode cX5_sameBases 0 = .ok (.iconst 0, 1) := by decide +kernel
theorem dX5_sameBases_1 : decode cX5_sameBases 1 = .ok (.istore 4, 2) := by decide +kernel
theorem dX5_sameBases_3 : decode cX5_sameBases 3 = .ok (.iload 4, 2) := by decide +kernel
theorem dX5_sameBases_5 : decode cX5_sameBases 5 = .ok (.iload_n 3, 1) := by decide +kernel
theorem dX5_sameBases_6 : decode cX5_sameBases 6 = .ok (.if_icmp .ge 44, 3) := by decide +kernel
theorem dX5_sameBases_9 : decode cX5_sameBases 9 = .ok (.iload 4, 2) := by decide +kernel
theorem dX5_sameBases_11 : decode cX5_sameBases 11 = .ok (.aload_n 1, 1) := by decide +kernel
theorem dX5_sameBases_12 : decode cX5_sameBases 12 = .ok (.arraylength, 1) := by decide +kernel
theorem dX5_sameBases_13 : decode cX5_sameBases 13 = .ok (.if_icmp .ge 37, 3) := by decide +kernel
theorem dX5_sameBases_16 : decode cX5_sameBases 16 = .ok (.iload 4, 2) := by decide +kernel
theorem dX5_sameBases_18 : decode cX5_sameBases 18 = .ok (.aload_n 2, 1) := by decide +kernel
theorem dX5_sameBases_19 : decode cX5_sameBases 19 = .ok (.arraylength, 1) := by decide +kernel
theorem dX5_sameBases_20 : decode cX5_sameBases 20 = .ok (.if_icmp .ge 30, 3) := by decide +kernel
theorem dX5_sameBases_23 : decode cX5_sameBases 23 = .ok (.aload_n 0, 1) := by decide +kernel
theorem dX5_sameBases_24 : decode cX5_sameBases 24 = .ok (.aload_n 1, 1) := by decide +kernel
theorem dX5_sameBases_25 : decode cX5_sameBases 25 = .ok (.iload 4, 2) := by decide +kernel
theorem dX5_sameBases_27 : decode cX5_sameBases 27 = .ok (.iaload, 1) := by decide +kernel
theorem dX5_sameBases_28 : decode cX5_sameBases 28 = .ok (.invokevirtual 42, 3) := by decide +kernel
theorem dX5_sameBases_31 : decode cX5_sameBases 31 = .ok (.aload_n 0, 1) := by decide +kernel
theorem dX5_sameBases_32 : decode cX5_sameBases 32 = .ok (.aload_n 2, 1) := by decide +kernel
theorem dX5_sameBases_33 : decode cX5_sameBases 33 = .ok (.iload 4, 2) := by decide +kernel
theorem dX5_sameBases_35 : decode cX5_sameBases 35 = .ok (.iaload, 1) := by decide +kernel
theorem dX5_sameBases_36 : decode cX5_sameBases 36 = .ok (.invokevirtual 42, 3) := by decide +kernel
theorem dX5_sameBases_39 : decode cX5_sameBases 39 = .ok (.if_icmp .eq 5, 3) := by decide +kernel
theorem dX5_sameBases_42 : decode cX5_sameBases 42 = .ok (.iconst 0, 1) := by decide +kernel
theorem dX5_sameBases_43 : decode cX5_sameBases 43 = .ok (.ireturn, 1) := by decide +kernel
theorem dX5_sameBases_44 : decode cX5_sameBases 44 = .ok (.iinc 4 1, 3) := by decide +kernel
theorem dX5_sameBases_47 : decode cX5_sameBases 47 = .ok (.goto (-44), 3) := by decide +kernel
theorem dX5_sameBases_50 : decode cX5_sameBases 50 = .ok (.iconst 1, 1) := by decide +kernel
theorem dX5_sameBases_51 : decode cX5_sameBases 51 = .ok (.ireturn, 1) := by decide +kernel
theorem dX5_copyFrom_0 : decode cX5_copyFrom 0 = .ok (.iconst 0, 1) := by decide +kernel
theorem dX5_copyFrom_1 : decode cX5_copyFrom 1 = .ok (.istore_n 2, 1) := by decide +kernel
theorem dX5_copyFrom_2 : decode cX5_copyFrom 2 = .ok (.iload_n 2, 1) := by decide +kernel
theorem dX5_copyFrom_3 : decode cX5_copyFrom 3 = .ok (.bipush 13, 2) := by decide +kernel
theorem dX5_copyFrom_5 : decode cX5_copyFrom 5 = .ok (.if_icmp .ge 51, 3) := by decide +kernel
theorem dX5_copyFrom_8 : decode cX5_copyFrom 8 = .ok (.aload_n 1, 1) := by decide +kernel
theorem dX5_copyFrom_9 : decode cX5_copyFrom 9 = .ok (.getfield 13, 3) := by decide +kernel
theorem dX5_copyFrom_12 : decode cX5_copyFrom 12 = .ok (.iload_n 2, 1) := by decide +kernel
theorem dX5_copyFrom_13 : decode cX5_copyFrom 13 = .ok (.aaload, 1) := by decide +kernel
theorem dX5_copyFrom_14 : decode cX5_copyFrom 14 = .ok (.iconst 0, 1) := by decide +kernel
theorem dX5_copyFrom_15 : decode cX5_copyFrom 15 = .ok (.aload_n 0, 1) := by decide +kernel
theorem dX5_copyFrom_16 : decode cX5_copyFrom 16 = .ok (.getfield 13, 3) := by decide +kernel
theorem dX5_copyFrom_19 : decode cX5_copyFrom 19 = .ok (.iload_n 2, 1) := by decide +kernel
theorem dX5_copyFrom_20 : decode cX5_copyFrom 20 = .ok (.aaload, 1) := by decide +kernel
theorem dX5_copyFrom_21 : decode cX5_copyFrom 21 = .ok (.iconst 0, 1) := by decide +kernel
theorem dX5_copyFrom_22 : decode cX5_copyFrom 22 = .ok (.iconst 4, 1) := by decide +kernel
theorem dX5_copyFrom_23 : decode cX5_copyFrom 23 = .ok (.invokestatic 32, 3) := by decide +kernel
theorem dX5_copyFrom_26 : decode cX5_copyFrom 26 = .ok (.aload_n 0, 1) := by decide +kernel
theorem dX5_copyFrom_27 : decode cX5_copyFrom 27 = .ok (.getfield 16, 3) := by decide +kernel
theorem dX5_copyFrom_30 : decode cX5_copyFrom 30 = .ok (.iload_n 2, 1) := by decide +kernel
theorem dX5_copyFrom_31 : decode cX5_copyFrom 31 = .ok (.aload_n 1, 1) := by decide +kernel
theorem dX5_copyFrom_32 : decode cX5_copyFrom 32 = .ok (.getfield 16, 3) := by decide +kernel
theorem dX5_copyFrom_35 : decode cX5_copyFrom 35 = .ok (.iload_n 2, 1) := by decide +kernel
theorem dX5_copyFrom_36 : decode cX5_copyFrom 36 = .ok (.iaload, 1) := by decide +kernel
theorem dX5_copyFrom_37 : decode cX5_copyFrom 37 = .ok (.iastore, 1) := by decide +kernel
theorem dX5_copyFrom_38 : decode cX5_copyFrom 38 = .ok (.aload_n 0, 1) := by decide +kernel
theorem dX5_copyFrom_39 : decode cX5_copyFrom 39 = .ok (.getfield 20, 3) := by decide +kernel
theorem dX5_copyFrom_42 : decode cX5_copyFrom 42 = .ok (.iload_n 2, 1) := by decide +kernel
theorem dX5_copyFrom_43 : decode cX5_copyFrom 43 = .ok (.aload_n 1, 1) := by decide +kernel
theorem dX5_copyFrom_44 : decode cX5_copyFrom 44 = .ok (.getfield 20, 3) := by decide +kernel
theorem dX5_copyFrom_47 : decode cX5_copyFrom 47 = .ok (.iload_n 2, 1) := by decide +kernel
theorem dX5_copyFrom_48 : decode cX5_copyFrom 48 = .ok (.baload, 1) := by decide +kernel
theorem dX5_copyFrom_49 : decode cX5_copyFrom 49 = .ok (.bastore, 1) := by decide +kernel
theorem dX5_copyFrom_50 : decode cX5_copyFrom 50 = .ok (.iinc 2 1, 3) := by decide +kernel
theorem dX5_copyFrom_53 : decode cX5_copyFrom 53 = .ok (.goto (-51), 3) := by decide +kernel
theorem dX5_copyFrom_56 : decode cX5_copyFrom 56 = .ok (.aload_n 0, 1) := by decide +kernel
theorem dX5_copyFrom_57 : decode cX5_copyFrom 57 = .ok (.aload_n 1, 1) := by decide +kernel
theorem dX5_copyFrom_58 : decode cX5_copyFrom 58 = .ok (.getfield 24, 3) := by decide +kernel
theorem dX5_copyFrom_61 : decode cX5_copyFrom 61 = .ok (.putfield 24, 3) := by decide +kernel
theorem dX5_copyFrom_64 : decode cX5_copyFrom 64 = .ok (.return_, 1) := by decide +kernel
theorem dX6_init_0 : decode cX6_init 0 = .ok (.aload_n 0, 1) := by decide +kernel
theorem dX6_init_1 : decode cX6_init 1 = .ok (.invokespecial 1, 3) := by decide +kernel
theorem dX6_init_4 : decode cX6_init 4 = .ok (.aload_n 0, 1) := by decide +kernel
theorem dX6_init_5 : decode cX6_init 5 = .ok (.sipush 140, 3) := by decide +kernel
theorem dX6_init_8 : decode cX6_init 8 = .ok (.newarray .int, 2) := by decide +kernel
theorem dX6_init_10 : decode cX6_init 10 = .ok (.putfield 9, 3) := by decide +kernel
theorem dX6_init_13 : decode cX6_init 13 = .ok (.aload_n 0, 1) := by decide +kernel
theorem dX6_init_14 : decode cX6_init 14 = .ok (.iconst 0, 1) := by decide +kernel
theorem dX6_init_15 : decode cX6_init 15 = .ok (.putfield 13, 3) := by decide +kernel
theorem dX6_init_18 : decode cX6_init 18 = .ok (.return_, 1) := by decide +kernel
theorem dX6_length_0 : decode cX6_length 0 = .ok (.aload_n 0, 1) := by decide +kernel
theorem dX6_length_1 : decode cX6_length 1 = .ok (.getfield 13, 3) := by decide +kernel
theorem dX6_length_4 : decode cX6_length 4 = .ok (.ireturn, 1) := by decide +kernel
theorem dX6_add_0 : decode cX6_add 0 = .ok (.aload_n 0, 1) := by decide +kernel
theorem dX6_add_1 : decode cX6_add 1 = .ok (.getfield 13, 3) := by decide +kernel
theorem dX6_add_4 : decode cX6_add 4 = .ok (.sipush 140, 3) := by decide +kernel
theorem dX6_add_7 : decode cX6_add 7 = .ok (.if_icmp .ge 23, 3) := by decide +kernel
theorem dX6_add_10 : decode cX6_add 10 = .ok (.aload_n 0, 1) := by decide +kernel
theorem dX6_add_11 : decode cX6_add 11 = .ok (.getfield 9, 3) := by decide +kernel
theorem dX6_add_14 : decode cX6_add 14 = .ok (.aload_n 0, 1) := by decide +kernel
theorem dX6_add_15 : decode cX6_add 15 = .ok (.getfield 13, 3) := by decide +kernel
theorem dX6_add_18 : decode cX6_add 18 = .ok (.iload_n 1, 1) := by decide +kernel
theorem dX6_add_19 : decode cX6_add 19 = .ok (.iastore, 1) := by decide +kernel
theorem dX6_add_20 : decode cX6_add 20 = .ok (.aload_n 0, 1) := by decide +kernel
theorem dX6_add_21 : decode cX6_add 21 = .ok (.dup, 1) := by decide +kernel
theorem dX6_add_22 : decode cX6_add 22 = .ok (.getfield 13, 3) := by decide +kernel
theorem dX6_add_25 : decode cX6_add 25 = .ok (.iconst 1, 1) := by decide +kernel
theorem dX6_add_26 : decode cX6_add 26 = .ok (.iadd, 1) := by decide +kernel
theorem dX6_add_27 : decode cX6_add 27 = .ok (.putfield 13, 3) := by decide +kernel
theorem dX6_add_30 : decode cX6_add 30 = .ok (.return_, 1) := by decide +kernel
theorem dX7_init_0 : decode cX7_init 0 = .ok (.aload_n 0, 1) := by decide +kernel
theorem dX7_init_1 : decode cX7_init 1 = .ok (.invokespecial 3, 3) := by decide +kernel
theorem dX7_init_4 : decode cX7_init 4 = .ok (.aload_n 0, 1) := by decide +kernel
theorem dX7_init_5 : decode cX7_init 5 = .ok (.bipush 60, 2) := by decide +kernel
theorem dX7_init_7 : decode cX7_init 7 = .ok (.newarray .long, 2) := by decide +kernel
theorem dX7_init_9 : decode cX7_init 9 = .ok (.putfield 11, 3) := by decide +kernel
theorem dX7_init_12 : decode cX7_init 12 = .ok (.aload_n 0, 1) := by decide +kernel
theorem dX7_init_13 : decode cX7_init 13 = .ok (.bipush 60, 2) := by decide +kernel
theorem dX7_init_15 : decode cX7_init 15 = .ok (.newarray .int, 2) := by decide +kernel
theorem dX7_init_17 : decode cX7_init 17 = .ok (.putfield 15, 3) := by decide +kernel
theorem dX7_init_20 : decode cX7_init 20 = .ok (.aload_n 0, 1) := by decide +kernel
theorem dX7_init_21 : decode cX7_init 21 = .ok (.iconst 0, 1) := by decide +kernel
theorem dX7_init_22 : decode cX7_init 22 = .ok (.putfield 19, 3) := by decide +kernel
theorem dX7_init_25 : decode cX7_init 25 = .ok (.bipush 97, 2) := by decide +kernel
theorem dX7_init_27 : decode cX7_init 27 = .ok (.istore_n 1, 1) := by decide +kernel
theorem dX7_init_28 : decode cX7_init 28 = .ok (.iload_n 1, 1) := by decide +kernel
theorem dX7_init_29 : decode cX7_init 29 = .ok (.bipush 122, 2) := by decide +kernel
theorem dX7_init_31 : decode cX7_init 31 = .ok (.if_icmp .gt 16, 3) := by decide +kernel
theorem dX7_init_34 : decode cX7_init 34 = .ok (.aload_n 0, 1) := by decide +kernel
theorem dX7_init_35 : decode cX7_init 35 = .ok (.iload_n 1, 1) := by decide +kernel
theorem dX7_init_36 : decode cX7_init 36 = .ok (.i2l, 1) := by decide +kernel
theorem dX7_init_37 : decode cX7_init 37 = .ok (.invokevirtual 23, 3) := by decide +kernel
theorem dX7_init_40 : decode cX7_init 40 = .ok (.pop, 1) := by decide +kernel
theorem dX7_init_41 : decode cX7_init 41 = .ok (.iinc 1 1, 3) := by decide +kernel
theorem dX7_init_44 : decode cX7_init 44 = .ok (.goto (-16), 3) := by decide +kernel
theorem dX7_init_47 : decode cX7_init 47 = .ok (.return_, 1) := by decide +kernel
theorem dX7_size_0 : decode cX7_size 0 = .ok (.aload_n 0, 1) := by decide +kernel
theorem dX7_size_1 : decode cX7_size 1 = .ok (.getfield 19, 3) := by decide +kernel
theorem dX7_size_4 : decode cX7_size 4 = .ok (.ireturn, 1) := by decide +kernel
theorem dX7_has_0 : decode cX7_has 0 = .ok (.iload_n 1, 1) := by decide +kernel
theorem dX7_has_1 : decode cX7_has 1 = .ok (.ifCond .lt 15, 3) := by decide +kernel
theorem dX7_has_4 : decode cX7_has 4 = .ok (.iload_n 1, 1) := by decide +kernel
theorem dX7_has_5 : decode cX7_has 5 = .ok (.aload_n 0, 1) := by decide +kernel
theorem dX7_has_6 : decode cX7_has 6 = .ok (.getfield 19, 3) := by decide +kernel
theorem dX7_has_9 : decode cX7_has 9 = .ok (.if_icmp .ge 7, 3) := by decide +kernel
theorem dX7_has_12 : decode cX7_has 12 = .ok (.iconst 1, 1) := by decide +kernel
theorem dX7_has_13 : decode cX7_has 13 = .ok (.goto 4, 3) := by decide +kernel
theorem dX7_has_16 : decode cX7_has 16 = .ok (.iconst 0, 1) := by decide +kernel
theorem dX7_has_17 : decode cX7_has 17 = .ok (.ireturn, 1) := by decide +kernel
theorem dX7_add_0 : decode cX7_add 0 = .ok (.aload_n 0, 1) := by decide +kernel
theorem dX7_add_1 : decode cX7_add 1 = .ok (.getfield 19, 3) := by decide +kernel
theorem dX7_add_4 : decode cX7_add 4 = .ok (.bipush 60, 2) := by decide +kernel
theorem dX7_add_6 : decode cX7_add 6 = .ok (.if_icmp .lt 6, 3) := by decide +kernel
theorem dX7_add_9 : decode cX7_add 9 = .ok (.bipush (-99), 2) := by decide +kernel
theorem dX7_add_11 : decode cX7_add 11 = .ok (.ireturn, 1) := by decide +kernel
theorem dX7_add_12 : decode cX7_add 12 = .ok (.aload_n 0, 1) := by decide +kernel
theorem dX7_add_13 : decode cX7_add 13 = .ok (.getfield 11, 3) := by decide +kernel
theorem dX7_add_16 : decode cX7_add 16 = .ok (.aload_n 0, 1) := by decide +kernel
theorem dX7_add_17 : decode cX7_add 17 = .ok (.getfield 19, 3) := by decide +kernel
theorem dX7_add_20 : decode cX7_add 20 = .ok (.lload_n 1, 1) := by decide +kernel
theorem dX7_add_21 : decode cX7_add 21 = .ok (.lastore, 1) := by decide +kernel
theorem dX7_add_22 : decode cX7_add 22 = .ok (.aload_n 0, 1) := by decide +kernel
theorem dX7_add_23 : decode cX7_add 23 = .ok (.getfield 15, 3) := by decide +kernel
theorem dX7_add_26 : decode cX7_add 26 = .ok (.aload_n 0, 1) := by decide +kernel
theorem dX7_add_27 : decode cX7_add 27 = .ok (.getfield 19, 3) := by decide +kernel
theorem dX7_add_30 : decode cX7_add 30 = .ok (.aload_n 0, 1) := by decide +kernel
theorem dX7_add_31 : decode cX7_add 31 = .ok (.getfield 19, 3) := by decide +kernel
theorem dX7_add_34 : decode cX7_add 34 = .ok (.iastore, 1) := by decide +kernel
theorem dX7_add_35 : decode cX7_add 35 = .ok (.aload_n 0, 1) := by decide +kernel
theorem dX7_add_36 : decode cX7_add 36 = .ok (.dup, 1) := by decide +kernel
theorem dX7_add_37 : decode cX7_add 37 = .ok (.getfield 19, 3) := by decide +kernel
theorem dX7_add_40 : decode cX7_add 40 = .ok (.iconst 1, 1) := by decide +kernel
theorem dX7_add_41 : decode cX7_add 41 = .ok (.iadd, 1) := by decide +kernel
theorem dX7_add_42 : decode cX7_add 42 = .ok (.putfield 19, 3) := by decide +kernel
theorem dX7_add_45 : decode cX7_add 45 = .ok (.aload_n 0, 1) := by decide +kernel
theorem dX7_add_46 : decode cX7_add 46 = .ok (.getfield 19, 3) := by decide +kernel
theorem dX7_add_49 : decode cX7_add 49 = .ok (.iconst 1, 1) := by decide +kernel
theorem dX7_add_50 : decode cX7_add 50 = .ok (.isub, 1) := by decide +kernel
theorem dX7_add_51 : decode cX7_add 51 = .ok (.ireturn, 1) := by decide +kernel
theorem dX7_letterAt_0 : decode cX7_letterAt 0 = .ok (.aload_n 0, 1) := by decide +kernel
theorem dX7_letterAt_1 : decode cX7_letterAt 1 = .ok (.iload_n 1, 1) := by decide +kernel
theorem dX7_letterAt_2 : decode cX7_letterAt 2 = .ok (.invokevirtual 27, 3) := by decide +kernel
theorem dX7_letterAt_5 : decode cX7_letterAt 5 = .ok (.ifCond .eq 13, 3) := by decide +kernel
theorem dX7_letterAt_8 : decode cX7_letterAt 8 = .ok (.iload_n 2, 1) := by decide +kernel
theorem dX7_letterAt_9 : decode cX7_letterAt 9 = .ok (.ifCond .lt 9, 3) := by decide +kernel
theorem dX7_letterAt_12 : decode cX7_letterAt 12 = .ok (.iload_n 2, 1) := by decide +kernel
theorem dX7_letterAt_13 : decode cX7_letterAt 13 = .ok (.bipush 8, 2) := by decide +kernel
theorem dX7_letterAt_15 : decode cX7_letterAt 15 = .ok (.if_icmp .lt 6, 3) := by decide +kernel
theorem dX7_letterAt_18 : decode cX7_letterAt 18 = .ok (.bipush (-99), 2) := by decide +kernel
theorem dX7_letterAt_20 : decode cX7_letterAt 20 = .ok (.ireturn, 1) := by decide +kernel
theorem dX7_letterAt_21 : decode cX7_letterAt 21 = .ok (.aload_n 0, 1) := by decide +kernel
theorem dX7_letterAt_22 : decode cX7_letterAt 22 = .ok (.getfield 11, 3) := by decide +kernel
theorem dX7_letterAt_25 : decode cX7_letterAt 25 = .ok (.iload_n 1, 1) := by decide +kernel
theorem dX7_letterAt_26 : decode cX7_letterAt 26 = .ok (.laload, 1) := by decide +kernel
theorem dX7_letterAt_27 : decode cX7_letterAt 27 = .ok (.iload_n 2, 1) := by decide +kernel
theorem dX7_letterAt_28 : decode cX7_letterAt 28 = .ok (.bipush 8, 2) := by decide +kernel
theorem dX7_letterAt_30 : decode cX7_letterAt 30 = .ok (.imul, 1) := by decide +kernel
theorem dX7_letterAt_31 : decode cX7_letterAt 31 = .ok (.lushr, 1) := by decide +kernel
theorem dX7_letterAt_32 : decode cX7_letterAt 32 = .ok (.l2i, 1) := by decide +kernel
theorem dX7_letterAt_33 : decode cX7_letterAt 33 = .ok (.sipush 255, 3) := by decide +kernel
theorem dX7_letterAt_36 : decode cX7_letterAt 36 = .ok (.iand, 1) := by decide +kernel
theorem dX7_letterAt_37 : decode cX7_letterAt 37 = .ok (.istore_n 3, 1) := by decide +kernel
theorem dX7_letterAt_38 : decode cX7_letterAt 38 = .ok (.iload_n 3, 1) := by decide +kernel
theorem dX7_letterAt_39 : decode cX7_letterAt 39 = .ok (.ifCond .ne 8, 3) := by decide +kernel
theorem dX7_letterAt_42 : decode cX7_letterAt 42 = .ok (.bipush (-99), 2) := by decide +kernel
theorem dX7_letterAt_44 : decode cX7_letterAt 44 = .ok (.goto 4, 3) := by decide +kernel
theorem dX7_letterAt_47 : decode cX7_letterAt 47 = .ok (.iload_n 3, 1) := by decide +kernel
theorem dX7_letterAt_48 : decode cX7_letterAt 48 = .ok (.ireturn, 1) := by decide +kernel
theorem dX7_baseOf_0 : decode cX7_baseOf 0 = .ok (.iload_n 1, 1) := by decide +kernel
theorem dX7_baseOf_1 : decode cX7_baseOf 1 = .ok (.ifCond .lt 20, 3) := by decide +kernel
theorem dX7_baseOf_4 : decode cX7_baseOf 4 = .ok (.iload_n 1, 1) := by decide +kernel
theorem dX7_baseOf_5 : decode cX7_baseOf 5 = .ok (.aload_n 0, 1) := by decide +kernel
theorem dX7_baseOf_6 : decode cX7_baseOf 6 = .ok (.getfield 19, 3) := by decide +kernel
theorem dX7_baseOf_9 : decode cX7_baseOf 9 = .ok (.if_icmp .ge 12, 3) := by decide +kernel
theorem dX7_baseOf_12 : decode cX7_baseOf 12 = .ok (.aload_n 0, 1) := by decide +kernel
theorem dX7_baseOf_13 : decode cX7_baseOf 13 = .ok (.getfield 15, 3) := by decide +kernel
theorem dX7_baseOf_16 : decode cX7_baseOf 16 = .ok (.iload_n 1, 1) := by decide +kernel
theorem dX7_baseOf_17 : decode cX7_baseOf 17 = .ok (.iaload, 1) := by decide +kernel
theorem dX7_baseOf_18 : decode cX7_baseOf 18 = .ok (.goto 5, 3) := by decide +kernel
theorem dX7_baseOf_21 : decode cX7_baseOf 21 = .ok (.bipush (-99), 2) := by decide +kernel
theorem dX7_baseOf_23 : decode cX7_baseOf 23 = .ok (.ireturn, 1) := by decide +kernel
theorem dX7_putBase_0 : decode cX7_putBase 0 = .ok (.aload_n 0, 1) := by decide +kernel
theorem dX7_putBase_1 : decode cX7_putBase 1 = .ok (.iload_n 1, 1) := by decide +kernel
theorem dX7_putBase_2 : decode cX7_putBase 2 = .ok (.invokevirtual 27, 3) := by decide +kernel
theorem dX7_putBase_5 : decode cX7_putBase 5 = .ok (.ifCond .eq 18, 3) := by decide +kernel
theorem dX7_putBase_8 : decode cX7_putBase 8 = .ok (.aload_n 0, 1) := by decide +kernel
theorem dX7_putBase_9 : decode cX7_putBase 9 = .ok (.iload_n 2, 1) := by decide +kernel
theorem dX7_putBase_10 : decode cX7_putBase 10 = .ok (.invokevirtual 27, 3) := by decide +kernel
theorem dX7_putBase_13 : decode cX7_putBase 13 = .ok (.ifCond .eq 10, 3) := by decide +kernel
theorem dX7_putBase_16 : decode cX7_putBase 16 = .ok (.aload_n 0, 1) := by decide +kernel
theorem dX7_putBase_17 : decode cX7_putBase 17 = .ok (.getfield 15, 3) := by decide +kernel
theorem dX7_putBase_20 : decode cX7_putBase 20 = .ok (.iload_n 1, 1) := by decide +kernel
theorem dX7_putBase_21 : decode cX7_putBase 21 = .ok (.iload_n 2, 1) := by decide +kernel
theorem dX7_putBase_22 : decode cX7_putBase 22 = .ok (.iastore, 1) := by decide +kernel
theorem dX7_putBase_23 : decode cX7_putBase 23 = .ok (.return_, 1) := by decide +kernel
theorem dX7_isForm_0 : decode cX7_isForm 0 = .ok (.aload_n 0, 1) := by decide +kernel
theorem dX7_isForm_1 : decode cX7_isForm 1 = .ok (.iload_n 1, 1) := by decide +kernel
theorem dX7_isForm_2 : decode cX7_isForm 2 = .ok (.invokevirtual 31, 3) := by decide +kernel
theorem dX7_isForm_5 : decode cX7_isForm 5 = .ok (.iload_n 1, 1) := by decide +kernel
theorem dX7_isForm_6 : decode cX7_isForm 6 = .ok (.if_icmp .eq 7, 3) := by decide +kernel
theorem dX7_isForm_9 : decode cX7_isForm 9 = .ok (.iconst 1, 1) := by decide +kernel
theorem dX7_isForm_10 : decode cX7_isForm 10 = .ok (.goto 4, 3) := by decide +kernel
theorem dX7_isForm_13 : decode cX7_isForm 13 = .ok (.iconst 0, 1) := by decide +kernel
theorem dX7_isForm_14 : decode cX7_isForm 14 = .ok (.ireturn, 1) := by decide +kernel
theorem dX7_hasForms_0 : decode cX7_hasForms 0 = .ok (.iconst 0, 1) := by decide +kernel
theorem dX7_hasForms_1 : decode cX7_hasForms 1 = .ok (.istore_n 2, 1) := by decide +kernel
theorem dX7_hasForms_2 : decode cX7_hasForms 2 = .ok (.iload_n 2, 1) := by decide +kernel
theorem dX7_hasForms_3 : decode cX7_hasForms 3 = .ok (.aload_n 0, 1) := by decide +kernel
theorem dX7_hasForms_4 : decode cX7_hasForms 4 = .ok (.getfield 19, 3) := by decide +kernel
theorem dX7_hasForms_7 : decode cX7_hasForms 7 = .ok (.if_icmp .ge 26, 3) := by decide +kernel
theorem dX7_hasForms_10 : decode cX7_hasForms 10 = .ok (.iload_n 2, 1) := by decide +kernel
theorem dX7_hasForms_11 : decode cX7_hasForms 11 = .ok (.iload_n 1, 1) := by decide +kernel
theorem dX7_hasForms_12 : decode cX7_hasForms 12 = .ok (.if_icmp .eq 15, 3) := by decide +kernel
theorem dX7_hasForms_15 : decode cX7_hasForms 15 = .ok (.aload_n 0, 1) := by decide +kernel
theorem dX7_hasForms_16 : decode cX7_hasForms 16 = .ok (.getfield 15, 3) := by decide +kernel
theorem dX7_hasForms_19 : decode cX7_hasForms 19 = .ok (.iload_n 2, 1) := by decide +kernel
theorem dX7_hasForms_20 : decode cX7_hasForms 20 = .ok (.iaload, 1) := by decide +kernel
theorem dX7_hasForms_21 : decode cX7_hasForms 21 = .ok (.iload_n 1, 1) := by decide +kernel
theorem dX7_hasForms_22 : decode cX7_hasForms 22 = .ok (.if_icmp .ne 5, 3) := by decide +kernel
theorem dX7_hasForms_25 : decode cX7_hasForms 25 = .ok (.iconst 1, 1) := by decide +kernel
theorem dX7_hasForms_26 : decode cX7_hasForms 26 = .ok (.ireturn, 1) := by decide +kernel
theorem dX7_hasForms_27 : decode cX7_hasForms 27 = .ok (.iinc 2 1, 3) := by decide +kernel
theorem dX7_hasForms_30 : decode cX7_hasForms 30 = .ok (.goto (-28), 3) := by decide +kernel
theorem dX7_hasForms_33 : decode cX7_hasForms 33 = .ok (.iconst 0, 1) := by decide +kernel
theorem dX7_hasForms_34 : decode cX7_hasForms 34 = .ok (.ireturn, 1) := by decide +kernel
theorem dX7_formCount_0 : decode cX7_formCount 0 = .ok (.iconst 0, 1) := by decide +kernel
theorem dX7_formCount_1 : decode cX7_formCount 1 = .ok (.istore_n 1, 1) := by decide +kernel
theorem dX7_formCount_2 : decode cX7_formCount 2 = .ok (.iconst 0, 1) := by decide +kernel
theorem dX7_formCount_3 : decode cX7_formCount 3 = .ok (.istore_n 2, 1) := by decide +kernel
theorem dX7_formCount_4 : decode cX7_formCount 4 = .ok (.iload_n 2, 1) := by decide +kernel
theorem dX7_formCount_5 : decode cX7_formCount 5 = .ok (.aload_n 0, 1) := by decide +kernel
theorem dX7_formCount_6 : decode cX7_formCount 6 = .ok (.getfield 19, 3) := by decide +kernel
theorem dX7_formCount_9 : decode cX7_formCount 9 = .ok (.if_icmp .ge 22, 3) := by decide +kernel
theorem dX7_formCount_12 : decode cX7_formCount 12 = .ok (.aload_n 0, 1) := by decide +kernel
theorem dX7_formCount_13 : decode cX7_formCount 13 = .ok (.getfield 15, 3) := by decide +kernel
theorem dX7_formCount_16 : decode cX7_formCount 16 = .ok (.iload_n 2, 1) := by decide +kernel
theorem dX7_formCount_17 : decode cX7_formCount 17 = .ok (.iaload, 1) := by decide +kernel
theorem dX7_formCount_18 : decode cX7_formCount 18 = .ok (.iload_n 2, 1) := by decide +kernel
theorem dX7_formCount_19 : decode cX7_formCount 19 = .ok (.if_icmp .eq 6, 3) := by decide +kernel
theorem dX7_formCount_22 : decode cX7_formCount 22 = .ok (.iinc 1 1, 3) := by decide +kernel
theorem dX7_formCount_25 : decode cX7_formCount 25 = .ok (.iinc 2 1, 3) := by decide +kernel
theorem dX7_formCount_28 : decode cX7_formCount 28 = .ok (.goto (-24), 3) := by decide +kernel
theorem dX7_formCount_31 : decode cX7_formCount 31 = .ok (.iload_n 1, 1) := by decide +kernel
theorem dX7_formCount_32 : decode cX7_formCount 32 = .ok (.ireturn, 1) := by decide +kernel
theorem dX7_copyFrom_0 : decode cX7_copyFrom 0 = .ok (.aload_n 1, 1) := by decide +kernel
theorem dX7_copyFrom_1 : decode cX7_copyFrom 1 = .ok (.getfield 11, 3) := by decide +kernel
theorem dX7_copyFrom_4 : decode cX7_copyFrom 4 = .ok (.iconst 0, 1) := by decide +kernel
theorem dX7_copyFrom_5 : decode cX7_copyFrom 5 = .ok (.aload_n 0, 1) := by decide +kernel
theorem dX7_copyFrom_6 : decode cX7_copyFrom 6 = .ok (.getfield 11, 3) := by decide +kernel
theorem dX7_copyFrom_9 : decode cX7_copyFrom 9 = .ok (.iconst 0, 1) := by decide +kernel
theorem dX7_copyFrom_10 : decode cX7_copyFrom 10 = .ok (.bipush 60, 2) := by decide +kernel
theorem dX7_copyFrom_12 : decode cX7_copyFrom 12 = .ok (.invokestatic 35, 3) := by decide +kernel
theorem dX7_copyFrom_15 : decode cX7_copyFrom 15 = .ok (.aload_n 1, 1) := by decide +kernel
theorem dX7_copyFrom_16 : decode cX7_copyFrom 16 = .ok (.getfield 15, 3) := by decide +kernel
theorem dX7_copyFrom_19 : decode cX7_copyFrom 19 = .ok (.iconst 0, 1) := by decide +kernel
theorem dX7_copyFrom_20 : decode cX7_copyFrom 20 = .ok (.aload_n 0, 1) := by decide +kernel
theorem dX7_copyFrom_21 : decode cX7_copyFrom 21 = .ok (.getfield 15, 3) := by decide +kernel
theorem dX7_copyFrom_24 : decode cX7_copyFrom 24 = .ok (.iconst 0, 1) := by decide +kernel
theorem dX7_copyFrom_25 : decode cX7_copyFrom 25 = .ok (.bipush 60, 2) := by decide +kernel
theorem dX7_copyFrom_27 : decode cX7_copyFrom 27 = .ok (.invokestatic 35, 3) := by decide +kernel
theorem dX7_copyFrom_30 : decode cX7_copyFrom 30 = .ok (.aload_n 0, 1) := by decide +kernel
theorem dX7_copyFrom_31 : decode cX7_copyFrom 31 = .ok (.aload_n 1, 1) := by decide +kernel
theorem dX7_copyFrom_32 : decode cX7_copyFrom 32 = .ok (.getfield 19, 3) := by decide +kernel
theorem dX7_copyFrom_35 : decode cX7_copyFrom 35 = .ok (.putfield 19, 3) := by decide +kernel
theorem dX7_copyFrom_38 : decode cX7_copyFrom 38 = .ok (.return_, 1) := by decide +kernel
theorem dX8_init_0 : decode cX8_init 0 = .ok (.aload_n 0, 1) := by decide +kernel
theorem dX8_init_1 : decode cX8_init 1 = .ok (.invokespecial 1, 3) := by decide +kernel
theorem dX8_init_4 : decode cX8_init 4 = .ok (.aload_n 0, 1) := by decide +kernel
theorem dX8_init_5 : decode cX8_init 5 = .ok (.new 7, 3) := by decide +kernel
theorem dX8_init_8 : decode cX8_init 8 = .ok (.dup, 1) := by decide +kernel
theorem dX8_init_9 : decode cX8_init 9 = .ok (.invokespecial 9, 3) := by decide +kernel
theorem dX8_init_12 : decode cX8_init 12 = .ok (.putfield 10, 3) := by decide +kernel
theorem dX8_init_15 : decode cX8_init 15 = .ok (.aload_n 0, 1) := by decide +kernel
theorem dX8_init_16 : decode cX8_init 16 = .ok (.new 7, 3) := by decide +kernel
theorem dX8_init_19 : decode cX8_init 19 = .ok (.dup, 1) := by decide +kernel
theorem dX8_init_20 : decode cX8_init 20 = .ok (.invokespecial 9, 3) := by decide +kernel
theorem dX8_init_23 : decode cX8_init 23 = .ok (.putfield 16, 3) := by decide +kernel
theorem dX8_init_26 : decode cX8_init 26 = .ok (.aload_n 0, 1) := by decide +kernel
theorem dX8_init_27 : decode cX8_init 27 = .ok (.new 19, 3) := by decide +kernel
theorem dX8_init_30 : decode cX8_init 30 = .ok (.dup, 1) := by decide +kernel
theorem dX8_init_31 : decode cX8_init 31 = .ok (.invokespecial 21, 3) := by decide +kernel
theorem dX8_init_34 : decode cX8_init 34 = .ok (.putfield 22, 3) := by decide +kernel
theorem dX8_init_37 : decode cX8_init 37 = .ok (.aload_n 0, 1) := by decide +kernel
theorem dX8_init_38 : decode cX8_init 38 = .ok (.new 26, 3) := by decide +kernel
theorem dX8_init_41 : decode cX8_init 41 = .ok (.dup, 1) := by decide +kernel
theorem dX8_init_42 : decode cX8_init 42 = .ok (.invokespecial 28, 3) := by decide +kernel
theorem dX8_init_45 : decode cX8_init 45 = .ok (.putfield 29, 3) := by decide +kernel
theorem dX8_init_48 : decode cX8_init 48 = .ok (.aload_n 0, 1) := by decide +kernel
theorem dX8_init_49 : decode cX8_init 49 = .ok (.new 33, 3) := by decide +kernel
theorem dX8_init_52 : decode cX8_init 52 = .ok (.dup, 1) := by decide +kernel
theorem dX8_init_53 : decode cX8_init 53 = .ok (.invokespecial 35, 3) := by decide +kernel
theorem dX8_init_56 : decode cX8_init 56 = .ok (.putfield 36, 3) := by decide +kernel
theorem dX8_init_59 : decode cX8_init 59 = .ok (.aload_n 0, 1) := by decide +kernel
theorem dX8_init_60 : decode cX8_init 60 = .ok (.iconst 4, 1) := by decide +kernel
theorem dX8_init_61 : decode cX8_init 61 = .ok (.newarray .int, 2) := by decide +kernel
theorem dX8_init_63 : decode cX8_init 63 = .ok (.putfield 42, 3) := by decide +kernel
theorem dX8_init_66 : decode cX8_init 66 = .ok (.return_, 1) := by decide +kernel
theorem dX8_insert_0 : decode cX8_insert 0 = .ok (.aload_n 0, 1) := by decide +kernel
theorem dX8_insert_1 : decode cX8_insert 1 = .ok (.getfield 10, 3) := by decide +kernel
theorem dX8_insert_4 : decode cX8_insert 4 = .ok (.getfield 46, 3) := by decide +kernel
theorem dX8_insert_7 : decode cX8_insert 7 = .ok (.astore 4, 2) := by decide +kernel
theorem dX8_insert_9 : decode cX8_insert 9 = .ok (.aload 4, 2) := by decide +kernel
theorem dX8_insert_11 : decode cX8_insert 11 = .ok (.iload_n 1, 1) := by decide +kernel
theorem dX8_insert_12 : decode cX8_insert 12 = .ok (.invokevirtual 50, 3) := by decide +kernel
theorem dX8_insert_15 : decode cX8_insert 15 = .ok (.ifCond .eq 31, 3) := by decide +kernel
theorem dX8_insert_18 : decode cX8_insert 18 = .ok (.iload_n 2, 1) := by decide +kernel
theorem dX8_insert_19 : decode cX8_insert 19 = .ok (.ifCond .lt 27, 3) := by decide +kernel
theorem dX8_insert_22 : decode cX8_insert 22 = .ok (.iload_n 2, 1) := by decide +kernel
theorem dX8_insert_23 : decode cX8_insert 23 = .ok (.aload 4, 2) := by decide +kernel
theorem dX8_insert_25 : decode cX8_insert 25 = .ok (.iload_n 1, 1) := by decide +kernel
theorem dX8_insert_26 : decode cX8_insert 26 = .ok (.invokevirtual 56, 3) := by decide +kernel
theorem dX8_insert_29 : decode cX8_insert 29 = .ok (.if_icmp .gt 17, 3) := by decide +kernel
theorem dX8_insert_32 : decode cX8_insert 32 = .ok (.aload_n 0, 1) := by decide +kernel
theorem dX8_insert_33 : decode cX8_insert 33 = .ok (.getfield 10, 3) := by decide +kernel
theorem dX8_insert_36 : decode cX8_insert 36 = .ok (.getfield 60, 3) := by decide +kernel
theorem dX8_insert_39 : decode cX8_insert 39 = .ok (.iload_n 3, 1) := by decide +kernel
theorem dX8_insert_40 : decode cX8_insert 40 = .ok (.invokevirtual 64, 3) := by decide +kernel
theorem dX8_insert_43 : decode cX8_insert 43 = .ok (.ifCond .ne 5, 3) := by decide +kernel
theorem dX8_insert_46 : decode cX8_insert 46 = .ok (.iconst (-1), 1) := by decide +kernel
theorem dX8_insert_47 : decode cX8_insert 47 = .ok (.ireturn, 1) := by decide +kernel
theorem dX8_insert_48 : decode cX8_insert 48 = .ok (.aload 4, 2) := by decide +kernel
theorem dX8_insert_50 : decode cX8_insert 50 = .ok (.iload_n 1, 1) := by decide +kernel
theorem dX8_insert_51 : decode cX8_insert 51 = .ok (.invokevirtual 56, 3) := by decide +kernel
theorem dX8_insert_54 : decode cX8_insert 54 = .ok (.bipush 40, 2) := by decide +kernel
theorem dX8_insert_56 : decode cX8_insert 56 = .ok (.if_icmp .lt 6, 3) := by decide +kernel
theorem dX8_insert_59 : decode cX8_insert 59 = .ok (.bipush (-3), 2) := by decide +kernel
theorem dX8_insert_61 : decode cX8_insert 61 = .ok (.ireturn, 1) := by decide +kernel
theorem dX8_insert_62 : decode cX8_insert 62 = .ok (.aload_n 0, 1) := by decide +kernel
theorem dX8_insert_63 : decode cX8_insert 63 = .ok (.getfield 22, 3) := by decide +kernel
theorem dX8_insert_66 : decode cX8_insert 66 = .ok (.aload_n 0, 1) := by decide +kernel
theorem dX8_insert_67 : decode cX8_insert 67 = .ok (.getfield 10, 3) := by decide +kernel
theorem dX8_insert_70 : decode cX8_insert 70 = .ok (.invokevirtual 67, 3) := by decide +kernel
theorem dX8_insert_73 : decode cX8_insert 73 = .ok (.aload 4, 2) := by decide +kernel
theorem dX8_insert_75 : decode cX8_insert 75 = .ok (.iload_n 1, 1) := by decide +kernel
theorem dX8_insert_76 : decode cX8_insert 76 = .ok (.iload_n 2, 1) := by decide +kernel
theorem dX8_insert_77 : decode cX8_insert 77 = .ok (.iload_n 3, 1) := by decide +kernel
theorem dX8_insert_78 : decode cX8_insert 78 = .ok (.invokevirtual 71, 3) := by decide +kernel
theorem dX8_insert_81 : decode cX8_insert 81 = .ok (.aload 4, 2) := by decide +kernel
theorem dX8_insert_83 : decode cX8_insert 83 = .ok (.iload_n 1, 1) := by decide +kernel
theorem dX8_insert_84 : decode cX8_insert 84 = .ok (.invokevirtual 56, 3) := by decide +kernel
theorem dX8_insert_87 : decode cX8_insert 87 = .ok (.ireturn, 1) := by decide +kernel
theorem dX8_delete_0 : decode cX8_delete 0 = .ok (.aload_n 0, 1) := by decide +kernel
theorem dX8_delete_1 : decode cX8_delete 1 = .ok (.getfield 10, 3) := by decide +kernel
theorem dX8_delete_4 : decode cX8_delete 4 = .ok (.getfield 46, 3) := by decide +kernel
theorem dX8_delete_7 : decode cX8_delete 7 = .ok (.astore 4, 2) := by decide +kernel
theorem dX8_delete_9 : decode cX8_delete 9 = .ok (.aload 4, 2) := by decide +kernel
theorem dX8_delete_11 : decode cX8_delete 11 = .ok (.iload_n 1, 1) := by decide +kernel
theorem dX8_delete_12 : decode cX8_delete 12 = .ok (.iload_n 2, 1) := by decide +kernel
theorem dX8_delete_13 : decode cX8_delete 13 = .ok (.invokevirtual 75, 3) := by decide +kernel
theorem dX8_delete_16 : decode cX8_delete 16 = .ok (.ifCond .eq 18, 3) := by decide +kernel
theorem dX8_delete_19 : decode cX8_delete 19 = .ok (.aload 4, 2) := by decide +kernel
theorem dX8_delete_21 : decode cX8_delete 21 = .ok (.iload_n 1, 1) := by decide +kernel
theorem dX8_delete_22 : decode cX8_delete 22 = .ok (.iload_n 3, 1) := by decide +kernel
theorem dX8_delete_23 : decode cX8_delete 23 = .ok (.invokevirtual 75, 3) := by decide +kernel
theorem dX8_delete_26 : decode cX8_delete 26 = .ok (.ifCond .eq 8, 3) := by decide +kernel
theorem dX8_delete_29 : decode cX8_delete 29 = .ok (.iload_n 3, 1) := by decide +kernel
theorem dX8_delete_30 : decode cX8_delete 30 = .ok (.iload_n 2, 1) := by decide +kernel
theorem dX8_delete_31 : decode cX8_delete 31 = .ok (.if_icmp .ge 5, 3) := by decide +kernel
theorem dX8_delete_34 : decode cX8_delete 34 = .ok (.iconst (-1), 1) := by decide +kernel
theorem dX8_delete_35 : decode cX8_delete 35 = .ok (.ireturn, 1) := by decide +kernel
theorem dX8_delete_36 : decode cX8_delete 36 = .ok (.aload_n 0, 1) := by decide +kernel
theorem dX8_delete_37 : decode cX8_delete 37 = .ok (.getfield 22, 3) := by decide +kernel
theorem dX8_delete_40 : decode cX8_delete 40 = .ok (.aload_n 0, 1) := by decide +kernel
theorem dX8_delete_41 : decode cX8_delete 41 = .ok (.getfield 10, 3) := by decide +kernel
theorem dX8_delete_44 : decode cX8_delete 44 = .ok (.invokevirtual 67, 3) := by decide +kernel
theorem dX8_delete_47 : decode cX8_delete 47 = .ok (.aload 4, 2) := by decide +kernel
theorem dX8_delete_49 : decode cX8_delete 49 = .ok (.iload_n 1, 1) := by decide +kernel
theorem dX8_delete_50 : decode cX8_delete 50 = .ok (.iload_n 2, 1) := by decide +kernel
theorem dX8_delete_51 : decode cX8_delete 51 = .ok (.iload_n 3, 1) := by decide +kernel
theorem dX8_delete_52 : decode cX8_delete 52 = .ok (.invokevirtual 79, 3) := by decide +kernel
theorem dX8_delete_55 : decode cX8_delete 55 = .ok (.aload 4, 2) := by decide +kernel
theorem dX8_delete_57 : decode cX8_delete 57 = .ok (.iload_n 1, 1) := by decide +kernel
theorem dX8_delete_58 : decode cX8_delete 58 = .ok (.invokevirtual 56, 3) := by decide +kernel
theorem dX8_delete_61 : decode cX8_delete 61 = .ok (.ireturn, 1) := by decide +kernel
theorem dX8_replace_0 : decode cX8_replace 0 = .ok (.aload_n 0, 1) := by decide +kernel
theorem dX8_replace_1 : decode cX8_replace 1 = .ok (.getfield 10, 3) := by decide +kernel
theorem dX8_replace_4 : decode cX8_replace 4 = .ok (.getfield 60, 3) := by decide +kernel
theorem dX8_replace_7 : decode cX8_replace 7 = .ok (.iload_n 1, 1) := by decide +kernel
theorem dX8_replace_8 : decode cX8_replace 8 = .ok (.invokevirtual 64, 3) := by decide +kernel
theorem dX8_replace_11 : decode cX8_replace 11 = .ok (.ifCond .eq 22, 3) := by decide +kernel
theorem dX8_replace_14 : decode cX8_replace 14 = .ok (.aload_n 0, 1) := by decide +kernel
theorem dX8_replace_15 : decode cX8_replace 15 = .ok (.getfield 10, 3) := by decide +kernel
theorem dX8_replace_18 : decode cX8_replace 18 = .ok (.getfield 60, 3) := by decide +kernel
theorem dX8_replace_21 : decode cX8_replace 21 = .ok (.iload_n 2, 1) := by decide +kernel
theorem dX8_replace_22 : decode cX8_replace 22 = .ok (.invokevirtual 64, 3) := by decide +kernel
theorem dX8_replace_25 : decode cX8_replace 25 = .ok (.ifCond .eq 8, 3) := by decide +kernel
theorem dX8_replace_28 : decode cX8_replace 28 = .ok (.iload_n 1, 1) := by decide +kernel
theorem dX8_replace_29 : decode cX8_replace 29 = .ok (.iload_n 2, 1) := by decide +kernel
theorem dX8_replace_30 : decode cX8_replace 30 = .ok (.if_icmp .ne 5, 3) := by decide +kernel
theorem dX8_replace_33 : decode cX8_replace 33 = .ok (.iconst (-1), 1) := by decide +kernel
theorem dX8_replace_34 : decode cX8_replace 34 = .ok (.ireturn, 1) := by decide +kernel
theorem dX8_replace_35 : decode cX8_replace 35 = .ok (.aload_n 0, 1) := by decide +kernel
theorem dX8_replace_36 : decode cX8_replace 36 = .ok (.getfield 22, 3) := by decide +kernel
theorem dX8_replace_39 : decode cX8_replace 39 = .ok (.aload_n 0, 1) := by decide +kernel
theorem dX8_replace_40 : decode cX8_replace 40 = .ok (.getfield 10, 3) := by decide +kernel
theorem dX8_replace_43 : decode cX8_replace 43 = .ok (.invokevirtual 67, 3) := by decide +kernel
theorem dX8_replace_46 : decode cX8_replace 46 = .ok (.aload_n 0, 1) := by decide +kernel
theorem dX8_replace_47 : decode cX8_replace 47 = .ok (.getfield 10, 3) := by decide +kernel
theorem dX8_replace_50 : decode cX8_replace 50 = .ok (.getfield 46, 3) := by decide +kernel
theorem dX8_replace_53 : decode cX8_replace 53 = .ok (.iload_n 1, 1) := by decide +kernel
theorem dX8_replace_54 : decode cX8_replace 54 = .ok (.iload_n 2, 1) := by decide +kernel
theorem dX8_replace_55 : decode cX8_replace 55 = .ok (.invokevirtual 82, 3) := by decide +kernel
theorem dX8_replace_58 : decode cX8_replace 58 = .ok (.ireturn, 1) := by decide +kernel
theorem dX8_swap_0 : decode cX8_swap 0 = .ok (.aload_n 0, 1) := by decide +kernel
theorem dX8_swap_1 : decode cX8_swap 1 = .ok (.getfield 10, 3) := by decide +kernel
theorem dX8_swap_4 : decode cX8_swap 4 = .ok (.getfield 46, 3) := by decide +kernel
theorem dX8_swap_7 : decode cX8_swap 7 = .ok (.iload_n 1, 1) := by decide +kernel
theorem dX8_swap_8 : decode cX8_swap 8 = .ok (.invokevirtual 50, 3) := by decide +kernel
theorem dX8_swap_11 : decode cX8_swap 11 = .ok (.ifCond .eq 17, 3) := by decide +kernel
theorem dX8_swap_14 : decode cX8_swap 14 = .ok (.aload_n 0, 1) := by decide +kernel
theorem dX8_swap_15 : decode cX8_swap 15 = .ok (.getfield 10, 3) := by decide +kernel
theorem dX8_swap_18 : decode cX8_swap 18 = .ok (.getfield 46, 3) := by decide +kernel
theorem dX8_swap_21 : decode cX8_swap 21 = .ok (.iload_n 2, 1) := by decide +kernel
theorem dX8_swap_22 : decode cX8_swap 22 = .ok (.invokevirtual 50, 3) := by decide +kernel
theorem dX8_swap_25 : decode cX8_swap 25 = .ok (.ifCond .ne 5, 3) := by decide +kernel
theorem dX8_swap_28 : decode cX8_swap 28 = .ok (.iconst (-1), 1) := by decide +kernel
theorem dX8_swap_29 : decode cX8_swap 29 = .ok (.ireturn, 1) := by decide +kernel
theorem dX8_swap_30 : decode cX8_swap 30 = .ok (.aload_n 0, 1) := by decide +kernel
theorem dX8_swap_31 : decode cX8_swap 31 = .ok (.getfield 22, 3) := by decide +kernel
theorem dX8_swap_34 : decode cX8_swap 34 = .ok (.aload_n 0, 1) := by decide +kernel
theorem dX8_swap_35 : decode cX8_swap 35 = .ok (.getfield 10, 3) := by decide +kernel
theorem dX8_swap_38 : decode cX8_swap 38 = .ok (.invokevirtual 67, 3) := by decide +kernel
theorem dX8_swap_41 : decode cX8_swap 41 = .ok (.aload_n 0, 1) := by decide +kernel
theorem dX8_swap_42 : decode cX8_swap 42 = .ok (.getfield 10, 3) := by decide +kernel
theorem dX8_swap_45 : decode cX8_swap 45 = .ok (.getfield 46, 3) := by decide +kernel
theorem dX8_swap_48 : decode cX8_swap 48 = .ok (.iload_n 1, 1) := by decide +kernel
theorem dX8_swap_49 : decode cX8_swap 49 = .ok (.iload_n 2, 1) := by decide +kernel
theorem dX8_swap_50 : decode cX8_swap 50 = .ok (.invokevirtual 86, 3) := by decide +kernel
theorem dX8_swap_53 : decode cX8_swap 53 = .ok (.aload_n 0, 1) := by decide +kernel
theorem dX8_swap_54 : decode cX8_swap 54 = .ok (.invokevirtual 90, 3) := by decide +kernel
theorem dX8_swap_57 : decode cX8_swap 57 = .ok (.invokevirtual 94, 3) := by decide +kernel
theorem dX8_swap_60 : decode cX8_swap 60 = .ok (.ireturn, 1) := by decide +kernel
theorem dX8_addTerm_0 : decode cX8_addTerm 0 = .ok (.aload_n 0, 1) := by decide +kernel
theorem dX8_addTerm_1 : decode cX8_addTerm 1 = .ok (.iload_n 1, 1) := by decide +kernel
theorem dX8_addTerm_2 : decode cX8_addTerm 2 = .ok (.iload_n 2, 1) := by decide +kernel
theorem dX8_addTerm_3 : decode cX8_addTerm 3 = .ok (.iload_n 3, 1) := by decide +kernel
theorem dX8_addTerm_4 : decode cX8_addTerm 4 = .ok (.iload 4, 2) := by decide +kernel
theorem dX8_addTerm_6 : decode cX8_addTerm 6 = .ok (.invokevirtual 98, 3) := by decide +kernel
theorem dX8_addTerm_9 : decode cX8_addTerm 9 = .ok (.istore 5, 2) := by decide +kernel
theorem dX8_addTerm_11 : decode cX8_addTerm 11 = .ok (.iload 5, 2) := by decide +kernel
theorem dX8_addTerm_13 : decode cX8_addTerm 13 = .ok (.ifCond .ge 6, 3) := by decide +kernel
theorem dX8_addTerm_16 : decode cX8_addTerm 16 = .ok (.iload 5, 2) := by decide +kernel
theorem dX8_addTerm_18 : decode cX8_addTerm 18 = .ok (.ireturn, 1) := by decide +kernel
theorem dX8_addTerm_19 : decode cX8_addTerm 19 = .ok (.aload_n 0, 1) := by decide +kernel
theorem dX8_addTerm_20 : decode cX8_addTerm 20 = .ok (.getfield 10, 3) := by decide +kernel
theorem dX8_addTerm_23 : decode cX8_addTerm 23 = .ok (.getfield 102, 3) := by decide +kernel
theorem dX8_addTerm_26 : decode cX8_addTerm 26 = .ok (.invokevirtual 106, 3) := by decide +kernel
theorem dX8_addTerm_29 : decode cX8_addTerm 29 = .ok (.bipush 12, 2) := by decide +kernel
theorem dX8_addTerm_31 : decode cX8_addTerm 31 = .ok (.if_icmp .lt 6, 3) := by decide +kernel
theorem dX8_addTerm_34 : decode cX8_addTerm 34 = .ok (.bipush (-3), 2) := by decide +kernel
theorem dX8_addTerm_36 : decode cX8_addTerm 36 = .ok (.ireturn, 1) := by decide +kernel
theorem dX8_addTerm_37 : decode cX8_addTerm 37 = .ok (.aload_n 0, 1) := by decide +kernel
theorem dX8_addTerm_38 : decode cX8_addTerm 38 = .ok (.getfield 22, 3) := by decide +kernel
theorem dX8_addTerm_41 : decode cX8_addTerm 41 = .ok (.aload_n 0, 1) := by decide +kernel
theorem dX8_addTerm_42 : decode cX8_addTerm 42 = .ok (.getfield 10, 3) := by decide +kernel
theorem dX8_addTerm_45 : decode cX8_addTerm 45 = .ok (.invokevirtual 67, 3) := by decide +kernel
theorem dX8_addTerm_48 : decode cX8_addTerm 48 = .ok (.aload_n 0, 1) := by decide +kernel
theorem dX8_addTerm_49 : decode cX8_addTerm 49 = .ok (.getfield 10, 3) := by decide +kernel
theorem dX8_addTerm_52 : decode cX8_addTerm 52 = .ok (.getfield 102, 3) := by decide +kernel
theorem dX8_addTerm_55 : decode cX8_addTerm 55 = .ok (.aload_n 0, 1) := by decide +kernel
theorem dX8_addTerm_56 : decode cX8_addTerm 56 = .ok (.getfield 42, 3) := by decide +kernel
theorem dX8_addTerm_59 : decode cX8_addTerm 59 = .ok (.iload 5, 2) := by decide +kernel
theorem dX8_addTerm_61 : decode cX8_addTerm 61 = .ok (.invokevirtual 109, 3) := by decide +kernel
theorem dX8_addTerm_64 : decode cX8_addTerm 64 = .ok (.aload_n 0, 1) := by decide +kernel
theorem dX8_addTerm_65 : decode cX8_addTerm 65 = .ok (.getfield 10, 3) := by decide +kernel
theorem dX8_addTerm_68 : decode cX8_addTerm 68 = .ok (.getfield 102, 3) := by decide +kernel
theorem dX8_addTerm_71 : decode cX8_addTerm 71 = .ok (.invokevirtual 106, 3) := by decide +kernel
theorem dX8_addTerm_74 : decode cX8_addTerm 74 = .ok (.iconst 1, 1) := by decide +kernel
theorem dX8_addTerm_75 : decode cX8_addTerm 75 = .ok (.isub, 1) := by decide +kernel
theorem dX8_addTerm_76 : decode cX8_addTerm 76 = .ok (.ireturn, 1) := by decide +kernel
theorem dX8_removeTerm_0 : decode cX8_removeTerm 0 = .ok (.aload_n 0, 1) := by decide +kernel
theorem dX8_removeTerm_1 : decode cX8_removeTerm 1 = .ok (.getfield 10, 3) := by decide +kernel
theorem dX8_removeTerm_4 : decode cX8_removeTerm 4 = .ok (.getfield 102, 3) := by decide +kernel
theorem dX8_removeTerm_7 : decode cX8_removeTerm 7 = .ok (.iload_n 1, 1) := by decide +kernel
theorem dX8_removeTerm_8 : decode cX8_removeTerm 8 = .ok (.invokevirtual 113, 3) := by decide +kernel
theorem dX8_removeTerm_11 : decode cX8_removeTerm 11 = .ok (.ifCond .ne 5, 3) := by decide +kernel
theorem dX8_removeTerm_14 : decode cX8_removeTerm 14 = .ok (.iconst (-1), 1) := by decide +kernel
theorem dX8_removeTerm_15 : decode cX8_removeTerm 15 = .ok (.ireturn, 1) := by decide +kernel
theorem dX8_removeTerm_16 : decode cX8_removeTerm 16 = .ok (.aload_n 0, 1) := by decide +kernel
theorem dX8_removeTerm_17 : decode cX8_removeTerm 17 = .ok (.getfield 22, 3) := by decide +kernel
theorem dX8_removeTerm_20 : decode cX8_removeTerm 20 = .ok (.aload_n 0, 1) := by decide +kernel
theorem dX8_removeTerm_21 : decode cX8_removeTerm 21 = .ok (.getfield 10, 3) := by decide +kernel
theorem dX8_removeTerm_24 : decode cX8_removeTerm 24 = .ok (.invokevirtual 67, 3) := by decide +kernel
theorem dX8_removeTerm_27 : decode cX8_removeTerm 27 = .ok (.aload_n 0, 1) := by decide +kernel
theorem dX8_removeTerm_28 : decode cX8_removeTerm 28 = .ok (.getfield 10, 3) := by decide +kernel
theorem dX8_removeTerm_31 : decode cX8_removeTerm 31 = .ok (.getfield 102, 3) := by decide +kernel
theorem dX8_removeTerm_34 : decode cX8_removeTerm 34 = .ok (.iload_n 1, 1) := by decide +kernel
theorem dX8_removeTerm_35 : decode cX8_removeTerm 35 = .ok (.invokevirtual 114, 3) := by decide +kernel
theorem dX8_removeTerm_38 : decode cX8_removeTerm 38 = .ok (.aload_n 0, 1) := by decide +kernel
theorem dX8_removeTerm_39 : decode cX8_removeTerm 39 = .ok (.getfield 10, 3) := by decide +kernel
theorem dX8_removeTerm_42 : decode cX8_removeTerm 42 = .ok (.getfield 102, 3) := by decide +kernel
theorem dX8_removeTerm_45 : decode cX8_removeTerm 45 = .ok (.invokevirtual 106, 3) := by decide +kernel
theorem dX8_removeTerm_48 : decode cX8_removeTerm 48 = .ok (.ireturn, 1) := by decide +kernel
theorem dX8_setQuiet_0 : decode cX8_setQuiet 0 = .ok (.aload_n 0, 1) := by decide +kernel
theorem dX8_setQuiet_1 : decode cX8_setQuiet 1 = .ok (.getfield 10, 3) := by decide +kernel
theorem dX8_setQuiet_4 : decode cX8_setQuiet 4 = .ok (.getfield 102, 3) := by decide +kernel
theorem dX8_setQuiet_7 : decode cX8_setQuiet 7 = .ok (.iload_n 1, 1) := by decide +kernel
theorem dX8_setQuiet_8 : decode cX8_setQuiet 8 = .ok (.invokevirtual 113, 3) := by decide +kernel
theorem dX8_setQuiet_11 : decode cX8_setQuiet 11 = .ok (.ifCond .eq 12, 3) := by decide +kernel
theorem dX8_setQuiet_14 : decode cX8_setQuiet 14 = .ok (.iload_n 2, 1) := by decide +kernel
theorem dX8_setQuiet_15 : decode cX8_setQuiet 15 = .ok (.ifCond .lt 8, 3) := by decide +kernel
theorem dX8_setQuiet_18 : decode cX8_setQuiet 18 = .ok (.iload_n 2, 1) := by decide +kernel
theorem dX8_setQuiet_19 : decode cX8_setQuiet 19 = .ok (.iconst 1, 1) := by decide +kernel
theorem dX8_setQuiet_20 : decode cX8_setQuiet 20 = .ok (.if_icmp .le 5, 3) := by decide +kernel
theorem dX8_setQuiet_23 : decode cX8_setQuiet 23 = .ok (.iconst (-1), 1) := by decide +kernel
theorem dX8_setQuiet_24 : decode cX8_setQuiet 24 = .ok (.ireturn, 1) := by decide +kernel
theorem dX8_setQuiet_25 : decode cX8_setQuiet 25 = .ok (.aload_n 0, 1) := by decide +kernel
theorem dX8_setQuiet_26 : decode cX8_setQuiet 26 = .ok (.getfield 22, 3) := by decide +kernel
theorem dX8_setQuiet_29 : decode cX8_setQuiet 29 = .ok (.aload_n 0, 1) := by decide +kernel
theorem dX8_setQuiet_30 : decode cX8_setQuiet 30 = .ok (.getfield 10, 3) := by decide +kernel
theorem dX8_setQuiet_33 : decode cX8_setQuiet 33 = .ok (.invokevirtual 67, 3) := by decide +kernel
theorem dX8_setQuiet_36 : decode cX8_setQuiet 36 = .ok (.aload_n 0, 1) := by decide +kernel
theorem dX8_setQuiet_37 : decode cX8_setQuiet 37 = .ok (.getfield 10, 3) := by decide +kernel
theorem dX8_setQuiet_40 : decode cX8_setQuiet 40 = .ok (.getfield 102, 3) := by decide +kernel
theorem dX8_setQuiet_43 : decode cX8_setQuiet 43 = .ok (.iload_n 1, 1) := by decide +kernel
theorem dX8_setQuiet_44 : decode cX8_setQuiet 44 = .ok (.iload_n 2, 1) := by decide +kernel
theorem dX8_setQuiet_45 : decode cX8_setQuiet 45 = .ok (.iconst 1, 1) := by decide +kernel
theorem dX8_setQuiet_46 : decode cX8_setQuiet 46 = .ok (.if_icmp .ne 7, 3) := by decide +kernel
theorem dX8_setQuiet_49 : decode cX8_setQuiet 49 = .ok (.iconst 1, 1) := by decide +kernel
theorem dX8_setQuiet_50 : decode cX8_setQuiet 50 = .ok (.goto 4, 3) := by decide +kernel
theorem dX8_setQuiet_53 : decode cX8_setQuiet 53 = .ok (.iconst 0, 1) := by decide +kernel
theorem dX8_setQuiet_54 : decode cX8_setQuiet 54 = .ok (.invokevirtual 118, 3) := by decide +kernel
theorem dX8_setQuiet_57 : decode cX8_setQuiet 57 = .ok (.aload_n 0, 1) := by decide +kernel
theorem dX8_setQuiet_58 : decode cX8_setQuiet 58 = .ok (.invokevirtual 90, 3) := by decide +kernel
theorem dX8_setQuiet_61 : decode cX8_setQuiet 61 = .ok (.invokevirtual 94, 3) := by decide +kernel
theorem dX8_setQuiet_64 : decode cX8_setQuiet 64 = .ok (.ireturn, 1) := by decide +kernel
theorem dX8_setBase_0 : decode cX8_setBase 0 = .ok (.aload_n 0, 1) := by decide +kernel
theorem dX8_setBase_1 : decode cX8_setBase 1 = .ok (.getfield 10, 3) := by decide +kernel
theorem dX8_setBase_4 : decode cX8_setBase 4 = .ok (.getfield 60, 3) := by decide +kernel
theorem dX8_setBase_7 : decode cX8_setBase 7 = .ok (.iload_n 1, 1) := by decide +kernel
theorem dX8_setBase_8 : decode cX8_setBase 8 = .ok (.invokevirtual 64, 3) := by decide +kernel
theorem dX8_setBase_11 : decode cX8_setBase 11 = .ok (.ifCond .eq 17, 3) := by decide +kernel
theorem dX8_setBase_14 : decode cX8_setBase 14 = .ok (.aload_n 0, 1) := by decide +kernel
theorem dX8_setBase_15 : decode cX8_setBase 15 = .ok (.getfield 10, 3) := by decide +kernel
theorem dX8_setBase_18 : decode cX8_setBase 18 = .ok (.getfield 60, 3) := by decide +kernel
theorem dX8_setBase_21 : decode cX8_setBase 21 = .ok (.iload_n 2, 1) := by decide +kernel
theorem dX8_setBase_22 : decode cX8_setBase 22 = .ok (.invokevirtual 64, 3) := by decide +kernel
theorem dX8_setBase_25 : decode cX8_setBase 25 = .ok (.ifCond .ne 5, 3) := by decide +kernel
theorem dX8_setBase_28 : decode cX8_setBase 28 = .ok (.iconst (-1), 1) := by decide +kernel
theorem dX8_setBase_29 : decode cX8_setBase 29 = .ok (.ireturn, 1) := by decide +kernel
theorem dX8_setBase_30 : decode cX8_setBase 30 = .ok (.aload_n 0, 1) := by decide +kernel
theorem dX8_setBase_31 : decode cX8_setBase 31 = .ok (.getfield 10, 3) := by decide +kernel
theorem dX8_setBase_34 : decode cX8_setBase 34 = .ok (.iload_n 1, 1) := by decide +kernel
theorem dX8_setBase_35 : decode cX8_setBase 35 = .ok (.iload_n 2, 1) := by decide +kernel
theorem dX8_setBase_36 : decode cX8_setBase 36 = .ok (.invokevirtual 122, 3) := by decide +kernel
theorem dX8_setBase_39 : decode cX8_setBase 39 = .ok (.ifCond .ne 6, 3) := by decide +kernel
theorem dX8_setBase_42 : decode cX8_setBase 42 = .ok (.bipush (-2), 2) := by decide +kernel
theorem dX8_setBase_44 : decode cX8_setBase 44 = .ok (.ireturn, 1) := by decide +kernel
theorem dX8_setBase_45 : decode cX8_setBase 45 = .ok (.aload_n 0, 1) := by decide +kernel
theorem dX8_setBase_46 : decode cX8_setBase 46 = .ok (.getfield 22, 3) := by decide +kernel
theorem dX8_setBase_49 : decode cX8_setBase 49 = .ok (.aload_n 0, 1) := by decide +kernel
theorem dX8_setBase_50 : decode cX8_setBase 50 = .ok (.getfield 10, 3) := by decide +kernel
theorem dX8_setBase_53 : decode cX8_setBase 53 = .ok (.invokevirtual 67, 3) := by decide +kernel
theorem dX8_setBase_56 : decode cX8_setBase 56 = .ok (.aload_n 0, 1) := by decide +kernel
theorem dX8_setBase_57 : decode cX8_setBase 57 = .ok (.getfield 10, 3) := by decide +kernel
theorem dX8_setBase_60 : decode cX8_setBase 60 = .ok (.getfield 60, 3) := by decide +kernel
theorem dX8_setBase_63 : decode cX8_setBase 63 = .ok (.iload_n 1, 1) := by decide +kernel
theorem dX8_setBase_64 : decode cX8_setBase 64 = .ok (.invokevirtual 125, 3) := by decide +kernel
theorem dX8_setBase_67 : decode cX8_setBase 67 = .ok (.istore_n 3, 1) := by decide +kernel
theorem dX8_setBase_68 : decode cX8_setBase 68 = .ok (.aload_n 0, 1) := by decide +kernel
theorem dX8_setBase_69 : decode cX8_setBase 69 = .ok (.getfield 10, 3) := by decide +kernel
theorem dX8_setBase_72 : decode cX8_setBase 72 = .ok (.getfield 60, 3) := by decide +kernel
theorem dX8_setBase_75 : decode cX8_setBase 75 = .ok (.iload_n 1, 1) := by decide +kernel
theorem dX8_setBase_76 : decode cX8_setBase 76 = .ok (.iload_n 2, 1) := by decide +kernel
theorem dX8_setBase_77 : decode cX8_setBase 77 = .ok (.invokevirtual 128, 3) := by decide +kernel
theorem dX8_setBase_80 : decode cX8_setBase 80 = .ok (.iload_n 3, 1) := by decide +kernel
theorem dX8_setBase_81 : decode cX8_setBase 81 = .ok (.ireturn, 1) := by decide +kernel
theorem dX8_take_0 : decode cX8_take 0 = .ok (.aload_n 0, 1) := by decide +kernel
theorem dX8_take_1 : decode cX8_take 1 = .ok (.getfield 10, 3) := by decide +kernel
theorem dX8_take_4 : decode cX8_take 4 = .ok (.iload_n 1, 1) := by decide +kernel
theorem dX8_take_5 : decode cX8_take 5 = .ok (.invokevirtual 131, 3) := by decide +kernel
theorem dX8_take_8 : decode cX8_take 8 = .ok (.ifCond .ne 5, 3) := by decide +kernel
theorem dX8_take_11 : decode cX8_take 11 = .ok (.iconst (-1), 1) := by decide +kernel
theorem dX8_take_12 : decode cX8_take 12 = .ok (.ireturn, 1) := by decide +kernel
theorem dX8_take_13 : decode cX8_take 13 = .ok (.aload_n 0, 1) := by decide +kernel
theorem dX8_take_14 : decode cX8_take 14 = .ok (.getfield 22, 3) := by decide +kernel
theorem dX8_take_17 : decode cX8_take 17 = .ok (.aload_n 0, 1) := by decide +kernel
theorem dX8_take_18 : decode cX8_take 18 = .ok (.getfield 10, 3) := by decide +kernel
theorem dX8_take_21 : decode cX8_take 21 = .ok (.invokevirtual 67, 3) := by decide +kernel
theorem dX8_take_24 : decode cX8_take 24 = .ok (.aload_n 0, 1) := by decide +kernel
theorem dX8_take_25 : decode cX8_take 25 = .ok (.getfield 10, 3) := by decide +kernel
theorem dX8_take_28 : decode cX8_take 28 = .ok (.iload_n 1, 1) := by decide +kernel
theorem dX8_take_29 : decode cX8_take 29 = .ok (.invokevirtual 134, 3) := by decide +kernel
theorem dX8_take_32 : decode cX8_take 32 = .ok (.aload_n 0, 1) := by decide +kernel
theorem dX8_take_33 : decode cX8_take 33 = .ok (.getfield 10, 3) := by decide +kernel
theorem dX8_take_36 : decode cX8_take 36 = .ok (.getfield 46, 3) := by decide +kernel
theorem dX8_take_39 : decode cX8_take 39 = .ok (.invokevirtual 137, 3) := by decide +kernel
theorem dX8_take_42 : decode cX8_take 42 = .ok (.ireturn, 1) := by decide +kernel
theorem dX8_restore_0 : decode cX8_restore 0 = .ok (.aload_n 0, 1) := by decide +kernel
theorem dX8_restore_1 : decode cX8_restore 1 = .ok (.getfield 10, 3) := by decide +kernel
theorem dX8_restore_4 : decode cX8_restore 4 = .ok (.iload_n 1, 1) := by decide +kernel
theorem dX8_restore_5 : decode cX8_restore 5 = .ok (.invokevirtual 131, 3) := by decide +kernel
theorem dX8_restore_8 : decode cX8_restore 8 = .ok (.ifCond .ne 5, 3) := by decide +kernel
theorem dX8_restore_11 : decode cX8_restore 11 = .ok (.iconst (-1), 1) := by decide +kernel
theorem dX8_restore_12 : decode cX8_restore 12 = .ok (.ireturn, 1) := by decide +kernel
theorem dX8_restore_13 : decode cX8_restore 13 = .ok (.aload_n 0, 1) := by decide +kernel
theorem dX8_restore_14 : decode cX8_restore 14 = .ok (.getfield 10, 3) := by decide +kernel
theorem dX8_restore_17 : decode cX8_restore 17 = .ok (.iload_n 1, 1) := by decide +kernel
theorem dX8_restore_18 : decode cX8_restore 18 = .ok (.invokevirtual 140, 3) := by decide +kernel
theorem dX8_restore_21 : decode cX8_restore 21 = .ok (.ifCond .ne 6, 3) := by decide +kernel
theorem dX8_restore_24 : decode cX8_restore 24 = .ok (.bipush (-2), 2) := by decide +kernel
theorem dX8_restore_26 : decode cX8_restore 26 = .ok (.ireturn, 1) := by decide +kernel
theorem dX8_restore_27 : decode cX8_restore 27 = .ok (.aload_n 0, 1) := by decide +kernel
theorem dX8_restore_28 : decode cX8_restore 28 = .ok (.getfield 22, 3) := by decide +kernel
theorem dX8_restore_31 : decode cX8_restore 31 = .ok (.aload_n 0, 1) := by decide +kernel
theorem dX8_restore_32 : decode cX8_restore 32 = .ok (.getfield 10, 3) := by decide +kernel
theorem dX8_restore_35 : decode cX8_restore 35 = .ok (.invokevirtual 67, 3) := by decide +kernel
theorem dX8_restore_38 : decode cX8_restore 38 = .ok (.aload_n 0, 1) := by decide +kernel
theorem dX8_restore_39 : decode cX8_restore 39 = .ok (.getfield 10, 3) := by decide +kernel
theorem dX8_restore_42 : decode cX8_restore 42 = .ok (.iload_n 1, 1) := by decide +kernel
theorem dX8_restore_43 : decode cX8_restore 43 = .ok (.invokevirtual 143, 3) := by decide +kernel
theorem dX8_restore_46 : decode cX8_restore 46 = .ok (.aload_n 0, 1) := by decide +kernel
theorem dX8_restore_47 : decode cX8_restore 47 = .ok (.getfield 10, 3) := by decide +kernel
theorem dX8_restore_50 : decode cX8_restore 50 = .ok (.getfield 46, 3) := by decide +kernel
theorem dX8_restore_53 : decode cX8_restore 53 = .ok (.invokevirtual 137, 3) := by decide +kernel
theorem dX8_restore_56 : decode cX8_restore 56 = .ok (.ireturn, 1) := by decide +kernel
theorem dX8_undo_0 : decode cX8_undo 0 = .ok (.aload_n 0, 1) := by decide +kernel
theorem dX8_undo_1 : decode cX8_undo 1 = .ok (.getfield 22, 3) := by decide +kernel
theorem dX8_undo_4 : decode cX8_undo 4 = .ok (.invokevirtual 146, 3) := by decide +kernel
theorem dX8_undo_7 : decode cX8_undo 7 = .ok (.ifCond .ne 6, 3) := by decide +kernel
theorem dX8_undo_10 : decode cX8_undo 10 = .ok (.bipush (-2), 2) := by decide +kernel
theorem dX8_undo_12 : decode cX8_undo 12 = .ok (.ireturn, 1) := by decide +kernel
theorem dX8_undo_13 : decode cX8_undo 13 = .ok (.aload_n 0, 1) := by decide +kernel
theorem dX8_undo_14 : decode cX8_undo 14 = .ok (.getfield 22, 3) := by decide +kernel
theorem dX8_undo_17 : decode cX8_undo 17 = .ok (.aload_n 0, 1) := by decide +kernel
theorem dX8_undo_18 : decode cX8_undo 18 = .ok (.getfield 10, 3) := by decide +kernel
theorem dX8_undo_21 : decode cX8_undo 21 = .ok (.invokevirtual 147, 3) := by decide +kernel
theorem dX8_undo_24 : decode cX8_undo 24 = .ok (.aload_n 0, 1) := by decide +kernel
theorem dX8_undo_25 : decode cX8_undo 25 = .ok (.getfield 22, 3) := by decide +kernel
theorem dX8_undo_28 : decode cX8_undo 28 = .ok (.invokevirtual 146, 3) := by decide +kernel
theorem dX8_undo_31 : decode cX8_undo 31 = .ok (.ireturn, 1) := by decide +kernel
theorem dX8_append_0 : decode cX8_append 0 = .ok (.iload_n 1, 1) := by decide +kernel
theorem dX8_append_1 : decode cX8_append 1 = .ok (.iconst 1, 1) := by decide +kernel
theorem dX8_append_2 : decode cX8_append 2 = .ok (.if_icmp .lt 10, 3) := by decide +kernel
theorem dX8_append_5 : decode cX8_append 5 = .ok (.iload_n 1, 1) := by decide +kernel
theorem dX8_append_6 : decode cX8_append 6 = .ok (.sipush 255, 3) := by decide +kernel
theorem dX8_append_9 : decode cX8_append 9 = .ok (.if_icmp .le 5, 3) := by decide +kernel
theorem dX8_append_12 : decode cX8_append 12 = .ok (.iconst (-1), 1) := by decide +kernel
theorem dX8_append_13 : decode cX8_append 13 = .ok (.ireturn, 1) := by decide +kernel
theorem dX8_append_14 : decode cX8_append 14 = .ok (.aload_n 0, 1) := by decide +kernel
theorem dX8_append_15 : decode cX8_append 15 = .ok (.getfield 29, 3) := by decide +kernel
theorem dX8_append_18 : decode cX8_append 18 = .ok (.getfield 150, 3) := by decide +kernel
theorem dX8_append_21 : decode cX8_append 21 = .ok (.invokevirtual 154, 3) := by decide +kernel
theorem dX8_append_24 : decode cX8_append 24 = .ok (.sipush 140, 3) := by decide +kernel
theorem dX8_append_27 : decode cX8_append 27 = .ok (.if_icmp .lt 6, 3) := by decide +kernel
theorem dX8_append_30 : decode cX8_append 30 = .ok (.bipush (-3), 2) := by decide +kernel
theorem dX8_append_32 : decode cX8_append 32 = .ok (.ireturn, 1) := by decide +kernel
theorem dX8_append_33 : decode cX8_append 33 = .ok (.aload_n 0, 1) := by decide +kernel
theorem dX8_append_34 : decode cX8_append 34 = .ok (.getfield 29, 3) := by decide +kernel
theorem dX8_append_37 : decode cX8_append 37 = .ok (.getfield 150, 3) := by decide +kernel
theorem dX8_append_40 : decode cX8_append 40 = .ok (.iload_n 1, 1) := by decide +kernel
theorem dX8_append_41 : decode cX8_append 41 = .ok (.invokevirtual 159, 3) := by decide +kernel
theorem dX8_append_44 : decode cX8_append 44 = .ok (.aload_n 0, 1) := by decide +kernel
theorem dX8_append_45 : decode cX8_append 45 = .ok (.getfield 29, 3) := by decide +kernel
theorem dX8_append_48 : decode cX8_append 48 = .ok (.getfield 150, 3) := by decide +kernel
theorem dX8_append_51 : decode cX8_append 51 = .ok (.invokevirtual 154, 3) := by decide +kernel
theorem dX8_append_54 : decode cX8_append 54 = .ok (.ireturn, 1) := by decide +kernel
theorem dX8_count_0 : decode cX8_count 0 = .ok (.iload_n 1, 1) := by decide +kernel
theorem dX8_count_1 : decode cX8_count 1 = .ok (.tableswitch 153 0 9 #[55, 66, 77, 88, 99, 107, 115, 126, 134, 142], 55) := by decide +kernel
theorem dX8_count_56 : decode cX8_count 56 = .ok (.aload_n 0, 1) := by decide +kernel
theorem dX8_count_57 : decode cX8_count 57 = .ok (.getfield 10, 3) := by decide +kernel
theorem dX8_count_60 : decode cX8_count 60 = .ok (.getfield 60, 3) := by decide +kernel
theorem dX8_count_63 : decode cX8_count 63 = .ok (.invokevirtual 172, 3) := by decide +kernel
theorem dX8_count_66 : decode cX8_count 66 = .ok (.ireturn, 1) := by decide +kernel
theorem dX8_count_67 : decode cX8_count 67 = .ok (.aload_n 0, 1) := by decide +kernel
theorem dX8_count_68 : decode cX8_count 68 = .ok (.getfield 10, 3) := by decide +kernel
theorem dX8_count_71 : decode cX8_count 71 = .ok (.getfield 46, 3) := by decide +kernel
theorem dX8_count_74 : decode cX8_count 74 = .ok (.invokevirtual 137, 3) := by decide +kernel
theorem dX8_count_77 : decode cX8_count 77 = .ok (.ireturn, 1) := by decide +kernel
theorem dX8_count_78 : decode cX8_count 78 = .ok (.aload_n 0, 1) := by decide +kernel
theorem dX8_count_79 : decode cX8_count 79 = .ok (.getfield 10, 3) := by decide +kernel
theorem dX8_count_82 : decode cX8_count 82 = .ok (.getfield 102, 3) := by decide +kernel
theorem dX8_count_85 : decode cX8_count 85 = .ok (.invokevirtual 106, 3) := by decide +kernel
theorem dX8_count_88 : decode cX8_count 88 = .ok (.ireturn, 1) := by decide +kernel
theorem dX8_count_89 : decode cX8_count 89 = .ok (.aload_n 0, 1) := by decide +kernel
theorem dX8_count_90 : decode cX8_count 90 = .ok (.getfield 10, 3) := by decide +kernel
theorem dX8_count_93 : decode cX8_count 93 = .ok (.getfield 102, 3) := by decide +kernel
theorem dX8_count_96 : decode cX8_count 96 = .ok (.invokevirtual 173, 3) := by decide +kernel
theorem dX8_count_99 : decode cX8_count 99 = .ok (.ireturn, 1) := by decide +kernel
theorem dX8_count_100 : decode cX8_count 100 = .ok (.aload_n 0, 1) := by decide +kernel
theorem dX8_count_101 : decode cX8_count 101 = .ok (.invokevirtual 90, 3) := by decide +kernel
theorem dX8_count_104 : decode cX8_count 104 = .ok (.invokevirtual 94, 3) := by decide +kernel
theorem dX8_count_107 : decode cX8_count 107 = .ok (.ireturn, 1) := by decide +kernel
theorem dX8_count_108 : decode cX8_count 108 = .ok (.aload_n 0, 1) := by decide +kernel
theorem dX8_count_109 : decode cX8_count 109 = .ok (.invokevirtual 90, 3) := by decide +kernel
theorem dX8_count_112 : decode cX8_count 112 = .ok (.invokevirtual 176, 3) := by decide +kernel
theorem dX8_count_115 : decode cX8_count 115 = .ok (.ireturn, 1) := by decide +kernel
theorem dX8_count_116 : decode cX8_count 116 = .ok (.aload_n 0, 1) := by decide +kernel
theorem dX8_count_117 : decode cX8_count 117 = .ok (.getfield 10, 3) := by decide +kernel
theorem dX8_count_120 : decode cX8_count 120 = .ok (.getfield 60, 3) := by decide +kernel
theorem dX8_count_123 : decode cX8_count 123 = .ok (.invokevirtual 179, 3) := by decide +kernel
theorem dX8_count_126 : decode cX8_count 126 = .ok (.ireturn, 1) := by decide +kernel
theorem dX8_count_127 : decode cX8_count 127 = .ok (.aload_n 0, 1) := by decide +kernel
theorem dX8_count_128 : decode cX8_count 128 = .ok (.getfield 10, 3) := by decide +kernel
theorem dX8_count_131 : decode cX8_count 131 = .ok (.invokevirtual 182, 3) := by decide +kernel
theorem dX8_count_134 : decode cX8_count 134 = .ok (.ireturn, 1) := by decide +kernel
theorem dX8_count_135 : decode cX8_count 135 = .ok (.aload_n 0, 1) := by decide +kernel
theorem dX8_count_136 : decode cX8_count 136 = .ok (.getfield 22, 3) := by decide +kernel
theorem dX8_count_139 : decode cX8_count 139 = .ok (.invokevirtual 146, 3) := by decide +kernel
theorem dX8_count_142 : decode cX8_count 142 = .ok (.ireturn, 1) := by decide +kernel
theorem dX8_count_143 : decode cX8_count 143 = .ok (.aload_n 0, 1) := by decide +kernel
theorem dX8_count_144 : decode cX8_count 144 = .ok (.getfield 29, 3) := by decide +kernel
theorem dX8_count_147 : decode cX8_count 147 = .ok (.getfield 150, 3) := by decide +kernel
theorem dX8_count_150 : decode cX8_count 150 = .ok (.invokevirtual 154, 3) := by decide +kernel
theorem dX8_count_153 : decode cX8_count 153 = .ok (.ireturn, 1) := by decide +kernel
theorem dX8_count_154 : decode cX8_count 154 = .ok (.iconst (-1), 1) := by decide +kernel
theorem dX8_count_155 : decode cX8_count 155 = .ok (.ireturn, 1) := by decide +kernel
theorem dX8_letter_0 : decode cX8_letter 0 = .ok (.aload_n 0, 1) := by decide +kernel
theorem dX8_letter_1 : decode cX8_letter 1 = .ok (.getfield 10, 3) := by decide +kernel
theorem dX8_letter_4 : decode cX8_letter 4 = .ok (.getfield 60, 3) := by decide +kernel
theorem dX8_letter_7 : decode cX8_letter 7 = .ok (.iload_n 1, 1) := by decide +kernel
theorem dX8_letter_8 : decode cX8_letter 8 = .ok (.invokevirtual 64, 3) := by decide +kernel
theorem dX8_letter_11 : decode cX8_letter 11 = .ok (.ifCond .eq 7, 3) := by decide +kernel
theorem dX8_letter_14 : decode cX8_letter 14 = .ok (.iload_n 2, 1) := by decide +kernel
theorem dX8_letter_15 : decode cX8_letter 15 = .ok (.ifCond .ge 5, 3) := by decide +kernel
theorem dX8_letter_18 : decode cX8_letter 18 = .ok (.iconst (-1), 1) := by decide +kernel
theorem dX8_letter_19 : decode cX8_letter 19 = .ok (.ireturn, 1) := by decide +kernel
theorem dX8_letter_20 : decode cX8_letter 20 = .ok (.aload_n 0, 1) := by decide +kernel
theorem dX8_letter_21 : decode cX8_letter 21 = .ok (.getfield 10, 3) := by decide +kernel
theorem dX8_letter_24 : decode cX8_letter 24 = .ok (.getfield 60, 3) := by decide +kernel
theorem dX8_letter_27 : decode cX8_letter 27 = .ok (.iload_n 1, 1) := by decide +kernel
theorem dX8_letter_28 : decode cX8_letter 28 = .ok (.iload_n 2, 1) := by decide +kernel
theorem dX8_letter_29 : decode cX8_letter 29 = .ok (.invokevirtual 185, 3) := by decide +kernel
theorem dX8_letter_32 : decode cX8_letter 32 = .ok (.ireturn, 1) := by decide +kernel
theorem dX8_base_0 : decode cX8_base 0 = .ok (.aload_n 0, 1) := by decide +kernel
theorem dX8_base_1 : decode cX8_base 1 = .ok (.getfield 10, 3) := by decide +kernel
theorem dX8_base_4 : decode cX8_base 4 = .ok (.getfield 60, 3) := by decide +kernel
theorem dX8_base_7 : decode cX8_base 7 = .ok (.iload_n 1, 1) := by decide +kernel
theorem dX8_base_8 : decode cX8_base 8 = .ok (.invokevirtual 64, 3) := by decide +kernel
theorem dX8_base_11 : decode cX8_base 11 = .ok (.ifCond .eq 17, 3) := by decide +kernel
theorem dX8_base_14 : decode cX8_base 14 = .ok (.aload_n 0, 1) := by decide +kernel
theorem dX8_base_15 : decode cX8_base 15 = .ok (.getfield 10, 3) := by decide +kernel
theorem dX8_base_18 : decode cX8_base 18 = .ok (.getfield 60, 3) := by decide +kernel
theorem dX8_base_21 : decode cX8_base 21 = .ok (.iload_n 1, 1) := by decide +kernel
theorem dX8_base_22 : decode cX8_base 22 = .ok (.invokevirtual 125, 3) := by decide +kernel
theorem dX8_base_25 : decode cX8_base 25 = .ok (.goto 4, 3) := by decide +kernel
theorem dX8_base_28 : decode cX8_base 28 = .ok (.iconst (-1), 1) := by decide +kernel
theorem dX8_base_29 : decode cX8_base 29 = .ok (.ireturn, 1) := by decide +kernel
theorem dX8_place_0 : decode cX8_place 0 = .ok (.aload_n 0, 1) := by decide +kernel
theorem dX8_place_1 : decode cX8_place 1 = .ok (.getfield 10, 3) := by decide +kernel
theorem dX8_place_4 : decode cX8_place 4 = .ok (.getfield 46, 3) := by decide +kernel
theorem dX8_place_7 : decode cX8_place 7 = .ok (.iload_n 1, 1) := by decide +kernel
theorem dX8_place_8 : decode cX8_place 8 = .ok (.invokevirtual 50, 3) := by decide +kernel
theorem dX8_place_11 : decode cX8_place 11 = .ok (.ifCond .eq 16, 3) := by decide +kernel
theorem dX8_place_14 : decode cX8_place 14 = .ok (.iload_n 2, 1) := by decide +kernel
theorem dX8_place_15 : decode cX8_place 15 = .ok (.ifCond .lt 12, 3) := by decide +kernel
theorem dX8_place_18 : decode cX8_place 18 = .ok (.iload_n 3, 1) := by decide +kernel
theorem dX8_place_19 : decode cX8_place 19 = .ok (.ifCond .lt 8, 3) := by decide +kernel
theorem dX8_place_22 : decode cX8_place 22 = .ok (.iload_n 3, 1) := by decide +kernel
theorem dX8_place_23 : decode cX8_place 23 = .ok (.iconst 3, 1) := by decide +kernel
theorem dX8_place_24 : decode cX8_place 24 = .ok (.if_icmp .le 5, 3) := by decide +kernel
theorem dX8_place_27 : decode cX8_place 27 = .ok (.iconst (-1), 1) := by decide +kernel
theorem dX8_place_28 : decode cX8_place 28 = .ok (.ireturn, 1) := by decide +kernel
theorem dX8_place_29 : decode cX8_place 29 = .ok (.aload_n 0, 1) := by decide +kernel
theorem dX8_place_30 : decode cX8_place 30 = .ok (.getfield 10, 3) := by decide +kernel
theorem dX8_place_33 : decode cX8_place 33 = .ok (.getfield 46, 3) := by decide +kernel
theorem dX8_place_36 : decode cX8_place 36 = .ok (.iload_n 1, 1) := by decide +kernel
theorem dX8_place_37 : decode cX8_place 37 = .ok (.iload_n 2, 1) := by decide +kernel
theorem dX8_place_38 : decode cX8_place 38 = .ok (.invokevirtual 75, 3) := by decide +kernel
theorem dX8_place_41 : decode cX8_place 41 = .ok (.ifCond .ne 6, 3) := by decide +kernel
theorem dX8_place_44 : decode cX8_place 44 = .ok (.bipush (-99), 2) := by decide +kernel
theorem dX8_place_46 : decode cX8_place 46 = .ok (.ireturn, 1) := by decide +kernel
theorem dX8_place_47 : decode cX8_place 47 = .ok (.iload_n 3, 1) := by decide +kernel
theorem dX8_place_48 : decode cX8_place 48 = .ok (.tableswitch 61 0 2 #[28, 41, 51], 28) := by decide +kernel
theorem dX8_place_76 : decode cX8_place 76 = .ok (.aload_n 0, 1) := by decide +kernel
theorem dX8_place_77 : decode cX8_place 77 = .ok (.getfield 10, 3) := by decide +kernel
theorem dX8_place_80 : decode cX8_place 80 = .ok (.getfield 46, 3) := by decide +kernel
theorem dX8_place_83 : decode cX8_place 83 = .ok (.iload_n 1, 1) := by decide +kernel
theorem dX8_place_84 : decode cX8_place 84 = .ok (.iload_n 2, 1) := by decide +kernel
theorem dX8_place_85 : decode cX8_place 85 = .ok (.invokevirtual 188, 3) := by decide +kernel
theorem dX8_place_88 : decode cX8_place 88 = .ok (.ireturn, 1) := by decide +kernel
theorem dX8_place_89 : decode cX8_place 89 = .ok (.aload_n 0, 1) := by decide +kernel
theorem dX8_place_90 : decode cX8_place 90 = .ok (.invokevirtual 90, 3) := by decide +kernel
theorem dX8_place_93 : decode cX8_place 93 = .ok (.iload_n 1, 1) := by decide +kernel
theorem dX8_place_94 : decode cX8_place 94 = .ok (.iload_n 2, 1) := by decide +kernel
theorem dX8_place_95 : decode cX8_place 95 = .ok (.invokevirtual 191, 3) := by decide +kernel
theorem dX8_place_98 : decode cX8_place 98 = .ok (.ireturn, 1) := by decide +kernel
theorem dX8_place_99 : decode cX8_place 99 = .ok (.aload_n 0, 1) := by decide +kernel
theorem dX8_place_100 : decode cX8_place 100 = .ok (.invokevirtual 90, 3) := by decide +kernel
theorem dX8_place_103 : decode cX8_place 103 = .ok (.iload_n 1, 1) := by decide +kernel
theorem dX8_place_104 : decode cX8_place 104 = .ok (.iload_n 2, 1) := by decide +kernel
theorem dX8_place_105 : decode cX8_place 105 = .ok (.invokevirtual 194, 3) := by decide +kernel
theorem dX8_place_108 : decode cX8_place 108 = .ok (.ireturn, 1) := by decide +kernel
theorem dX8_place_109 : decode cX8_place 109 = .ok (.aload_n 0, 1) := by decide +kernel
theorem dX8_place_110 : decode cX8_place 110 = .ok (.invokevirtual 90, 3) := by decide +kernel
theorem dX8_place_113 : decode cX8_place 113 = .ok (.iload_n 1, 1) := by decide +kernel
theorem dX8_place_114 : decode cX8_place 114 = .ok (.iload_n 2, 1) := by decide +kernel
theorem dX8_place_115 : decode cX8_place 115 = .ok (.invokevirtual 197, 3) := by decide +kernel
theorem dX8_place_118 : decode cX8_place 118 = .ok (.ifCond .eq 7, 3) := by decide +kernel
theorem dX8_place_121 : decode cX8_place 121 = .ok (.iconst 1, 1) := by decide +kernel
theorem dX8_place_122 : decode cX8_place 122 = .ok (.goto 4, 3) := by decide +kernel
theorem dX8_place_125 : decode cX8_place 125 = .ok (.iconst 0, 1) := by decide +kernel
theorem dX8_place_126 : decode cX8_place 126 = .ok (.ireturn, 1) := by decide +kernel
theorem dX8_term_0 : decode cX8_term 0 = .ok (.aload_n 0, 1) := by decide +kernel
theorem dX8_term_1 : decode cX8_term 1 = .ok (.getfield 10, 3) := by decide +kernel
theorem dX8_term_4 : decode cX8_term 4 = .ok (.getfield 102, 3) := by decide +kernel
theorem dX8_term_7 : decode cX8_term 7 = .ok (.iload_n 1, 1) := by decide +kernel
theorem dX8_term_8 : decode cX8_term 8 = .ok (.invokevirtual 113, 3) := by decide +kernel
theorem dX8_term_11 : decode cX8_term 11 = .ok (.ifCond .ne 5, 3) := by decide +kernel
theorem dX8_term_14 : decode cX8_term 14 = .ok (.iconst (-1), 1) := by decide +kernel
theorem dX8_term_15 : decode cX8_term 15 = .ok (.ireturn, 1) := by decide +kernel
theorem dX8_term_16 : decode cX8_term 16 = .ok (.iload_n 2, 1) := by decide +kernel
theorem dX8_term_17 : decode cX8_term 17 = .ok (.tableswitch 125 0 8 #[51, 63, 63, 63, 63, 78, 98, 107, 116], 51) := by decide +kernel
theorem dX8_term_68 : decode cX8_term 68 = .ok (.aload_n 0, 1) := by decide +kernel
theorem dX8_term_69 : decode cX8_term 69 = .ok (.getfield 10, 3) := by decide +kernel
theorem dX8_term_72 : decode cX8_term 72 = .ok (.getfield 102, 3) := by decide +kernel
theorem dX8_term_75 : decode cX8_term 75 = .ok (.iload_n 1, 1) := by decide +kernel
theorem dX8_term_76 : decode cX8_term 76 = .ok (.invokevirtual 200, 3) := by decide +kernel
theorem dX8_term_79 : decode cX8_term 79 = .ok (.ireturn, 1) := by decide +kernel
theorem dX8_term_80 : decode cX8_term 80 = .ok (.aload_n 0, 1) := by decide +kernel
theorem dX8_term_81 : decode cX8_term 81 = .ok (.getfield 10, 3) := by decide +kernel
theorem dX8_term_84 : decode cX8_term 84 = .ok (.getfield 102, 3) := by decide +kernel
theorem dX8_term_87 : decode cX8_term 87 = .ok (.iload_n 1, 1) := by decide +kernel
theorem dX8_term_88 : decode cX8_term 88 = .ok (.iload_n 2, 1) := by decide +kernel
theorem dX8_term_89 : decode cX8_term 89 = .ok (.iconst 1, 1) := by decide +kernel
theorem dX8_term_90 : decode cX8_term 90 = .ok (.isub, 1) := by decide +kernel
theorem dX8_term_91 : decode cX8_term 91 = .ok (.invokevirtual 201, 3) := by decide +kernel
theorem dX8_term_94 : decode cX8_term 94 = .ok (.ireturn, 1) := by decide +kernel
theorem dX8_term_95 : decode cX8_term 95 = .ok (.aload_n 0, 1) := by decide +kernel
theorem dX8_term_96 : decode cX8_term 96 = .ok (.getfield 10, 3) := by decide +kernel
theorem dX8_term_99 : decode cX8_term 99 = .ok (.getfield 102, 3) := by decide +kernel
theorem dX8_term_102 : decode cX8_term 102 = .ok (.iload_n 1, 1) := by decide +kernel
theorem dX8_term_103 : decode cX8_term 103 = .ok (.invokevirtual 202, 3) := by decide +kernel
theorem dX8_term_106 : decode cX8_term 106 = .ok (.ifCond .eq 7, 3) := by decide +kernel
theorem dX8_term_109 : decode cX8_term 109 = .ok (.iconst 1, 1) := by decide +kernel
theorem dX8_term_110 : decode cX8_term 110 = .ok (.goto 4, 3) := by decide +kernel
theorem dX8_term_113 : decode cX8_term 113 = .ok (.iconst 0, 1) := by decide +kernel
theorem dX8_term_114 : decode cX8_term 114 = .ok (.ireturn, 1) := by decide +kernel
theorem dX8_term_115 : decode cX8_term 115 = .ok (.aload_n 0, 1) := by decide +kernel
theorem dX8_term_116 : decode cX8_term 116 = .ok (.invokevirtual 90, 3) := by decide +kernel
theorem dX8_term_119 : decode cX8_term 119 = .ok (.iload_n 1, 1) := by decide +kernel
theorem dX8_term_120 : decode cX8_term 120 = .ok (.invokevirtual 205, 3) := by decide +kernel
theorem dX8_term_123 : decode cX8_term 123 = .ok (.ireturn, 1) := by decide +kernel
theorem dX8_term_124 : decode cX8_term 124 = .ok (.aload_n 0, 1) := by decide +kernel
theorem dX8_term_125 : decode cX8_term 125 = .ok (.getfield 10, 3) := by decide +kernel
theorem dX8_term_128 : decode cX8_term 128 = .ok (.iload_n 1, 1) := by decide +kernel
theorem dX8_term_129 : decode cX8_term 129 = .ok (.invokevirtual 208, 3) := by decide +kernel
theorem dX8_term_132 : decode cX8_term 132 = .ok (.ireturn, 1) := by decide +kernel
theorem dX8_term_133 : decode cX8_term 133 = .ok (.aload_n 0, 1) := by decide +kernel
theorem dX8_term_134 : decode cX8_term 134 = .ok (.invokevirtual 90, 3) := by decide +kernel
theorem dX8_term_137 : decode cX8_term 137 = .ok (.iload_n 1, 1) := by decide +kernel
theorem dX8_term_138 : decode cX8_term 138 = .ok (.invokevirtual 211, 3) := by decide +kernel
theorem dX8_term_141 : decode cX8_term 141 = .ok (.ireturn, 1) := by decide +kernel
theorem dX8_term_142 : decode cX8_term 142 = .ok (.iconst (-1), 1) := by decide +kernel
theorem dX8_term_143 : decode cX8_term 143 = .ok (.ireturn, 1) := by decide +kernel
theorem dX8_firstUse_0 : decode cX8_firstUse 0 = .ok (.aload_n 0, 1) := by decide +kernel
theorem dX8_firstUse_1 : decode cX8_firstUse 1 = .ok (.getfield 10, 3) := by decide +kernel
theorem dX8_firstUse_4 : decode cX8_firstUse 4 = .ok (.getfield 102, 3) := by decide +kernel
theorem dX8_firstUse_7 : decode cX8_firstUse 7 = .ok (.iload_n 1, 1) := by decide +kernel
theorem dX8_firstUse_8 : decode cX8_firstUse 8 = .ok (.invokevirtual 113, 3) := by decide +kernel
theorem dX8_firstUse_11 : decode cX8_firstUse 11 = .ok (.ifCond .eq 17, 3) := by decide +kernel
theorem dX8_firstUse_14 : decode cX8_firstUse 14 = .ok (.aload_n 0, 1) := by decide +kernel
theorem dX8_firstUse_15 : decode cX8_firstUse 15 = .ok (.getfield 10, 3) := by decide +kernel
theorem dX8_firstUse_18 : decode cX8_firstUse 18 = .ok (.getfield 46, 3) := by decide +kernel
theorem dX8_firstUse_21 : decode cX8_firstUse 21 = .ok (.iload_n 2, 1) := by decide +kernel
theorem dX8_firstUse_22 : decode cX8_firstUse 22 = .ok (.invokevirtual 50, 3) := by decide +kernel
theorem dX8_firstUse_25 : decode cX8_firstUse 25 = .ok (.ifCond .ne 5, 3) := by decide +kernel
theorem dX8_firstUse_28 : decode cX8_firstUse 28 = .ok (.iconst (-1), 1) := by decide +kernel
theorem dX8_firstUse_29 : decode cX8_firstUse 29 = .ok (.ireturn, 1) := by decide +kernel
theorem dX8_firstUse_30 : decode cX8_firstUse 30 = .ok (.aload_n 0, 1) := by decide +kernel
theorem dX8_firstUse_31 : decode cX8_firstUse 31 = .ok (.invokevirtual 90, 3) := by decide +kernel
theorem dX8_firstUse_34 : decode cX8_firstUse 34 = .ok (.iload_n 1, 1) := by decide +kernel
theorem dX8_firstUse_35 : decode cX8_firstUse 35 = .ok (.iload_n 2, 1) := by decide +kernel
theorem dX8_firstUse_36 : decode cX8_firstUse 36 = .ok (.invokevirtual 214, 3) := by decide +kernel
theorem dX8_firstUse_39 : decode cX8_firstUse 39 = .ok (.ireturn, 1) := by decide +kernel
theorem dX8_mark_0 : decode cX8_mark 0 = .ok (.iload_n 1, 1) := by decide +kernel
theorem dX8_mark_1 : decode cX8_mark 1 = .ok (.ifCond .lt 12, 3) := by decide +kernel
theorem dX8_mark_4 : decode cX8_mark 4 = .ok (.iload_n 2, 1) := by decide +kernel
theorem dX8_mark_5 : decode cX8_mark 5 = .ok (.ifCond .lt 8, 3) := by decide +kernel
theorem dX8_mark_8 : decode cX8_mark 8 = .ok (.iload_n 2, 1) := by decide +kernel
theorem dX8_mark_9 : decode cX8_mark 9 = .ok (.iconst 2, 1) := by decide +kernel
theorem dX8_mark_10 : decode cX8_mark 10 = .ok (.if_icmp .le 5, 3) := by decide +kernel
theorem dX8_mark_13 : decode cX8_mark 13 = .ok (.iconst (-1), 1) := by decide +kernel
theorem dX8_mark_14 : decode cX8_mark 14 = .ok (.ireturn, 1) := by decide +kernel
theorem dX8_mark_15 : decode cX8_mark 15 = .ok (.aload_n 0, 1) := by decide +kernel
theorem dX8_mark_16 : decode cX8_mark 16 = .ok (.invokevirtual 90, 3) := by decide +kernel
theorem dX8_mark_19 : decode cX8_mark 19 = .ok (.iload_n 1, 1) := by decide +kernel
theorem dX8_mark_20 : decode cX8_mark 20 = .ok (.iload_n 2, 1) := by decide +kernel
theorem dX8_mark_21 : decode cX8_mark 21 = .ok (.invokevirtual 217, 3) := by decide +kernel
theorem dX8_mark_24 : decode cX8_mark 24 = .ok (.ireturn, 1) := by decide +kernel
theorem dX8_why_0 : decode cX8_why 0 = .ok (.aload_n 0, 1) := by decide +kernel
theorem dX8_why_1 : decode cX8_why 1 = .ok (.getfield 10, 3) := by decide +kernel
theorem dX8_why_4 : decode cX8_why 4 = .ok (.getfield 46, 3) := by decide +kernel
theorem dX8_why_7 : decode cX8_why 7 = .ok (.iload_n 1, 1) := by decide +kernel
theorem dX8_why_8 : decode cX8_why 8 = .ok (.iload_n 2, 1) := by decide +kernel
theorem dX8_why_9 : decode cX8_why 9 = .ok (.invokevirtual 75, 3) := by decide +kernel
theorem dX8_why_12 : decode cX8_why 12 = .ok (.ifCond .eq 17, 3) := by decide +kernel
theorem dX8_why_15 : decode cX8_why 15 = .ok (.aload_n 0, 1) := by decide +kernel
theorem dX8_why_16 : decode cX8_why 16 = .ok (.getfield 10, 3) := by decide +kernel
theorem dX8_why_19 : decode cX8_why 19 = .ok (.getfield 102, 3) := by decide +kernel
theorem dX8_why_22 : decode cX8_why 22 = .ok (.iload_n 3, 1) := by decide +kernel
theorem dX8_why_23 : decode cX8_why 23 = .ok (.invokevirtual 113, 3) := by decide +kernel
theorem dX8_why_26 : decode cX8_why 26 = .ok (.ifCond .ne 5, 3) := by decide +kernel
theorem dX8_why_29 : decode cX8_why 29 = .ok (.iconst (-1), 1) := by decide +kernel
theorem dX8_why_30 : decode cX8_why 30 = .ok (.ireturn, 1) := by decide +kernel
theorem dX8_why_31 : decode cX8_why 31 = .ok (.aload_n 0, 1) := by decide +kernel
theorem dX8_why_32 : decode cX8_why 32 = .ok (.getfield 10, 3) := by decide +kernel
theorem dX8_why_35 : decode cX8_why 35 = .ok (.iload_n 3, 1) := by decide +kernel
theorem dX8_why_36 : decode cX8_why 36 = .ok (.iload_n 1, 1) := by decide +kernel
theorem dX8_why_37 : decode cX8_why 37 = .ok (.iload_n 2, 1) := by decide +kernel
theorem dX8_why_38 : decode cX8_why 38 = .ok (.invokevirtual 220, 3) := by decide +kernel
theorem dX8_why_41 : decode cX8_why 41 = .ok (.ifCond .ne 5, 3) := by decide +kernel
theorem dX8_why_44 : decode cX8_why 44 = .ok (.iconst 1, 1) := by decide +kernel
theorem dX8_why_45 : decode cX8_why 45 = .ok (.ireturn, 1) := by decide +kernel
theorem dX8_why_46 : decode cX8_why 46 = .ok (.aload_n 0, 1) := by decide +kernel
theorem dX8_why_47 : decode cX8_why 47 = .ok (.invokevirtual 90, 3) := by decide +kernel
theorem dX8_why_50 : decode cX8_why 50 = .ok (.astore 4, 2) := by decide +kernel
theorem dX8_why_52 : decode cX8_why 52 = .ok (.aload 4, 2) := by decide +kernel
theorem dX8_why_54 : decode cX8_why 54 = .ok (.iload_n 1, 1) := by decide +kernel
theorem dX8_why_55 : decode cX8_why 55 = .ok (.iload_n 2, 1) := by decide +kernel
theorem dX8_why_56 : decode cX8_why 56 = .ok (.invokevirtual 194, 3) := by decide +kernel
theorem dX8_why_59 : decode cX8_why 59 = .ok (.ifCond .le 5, 3) := by decide +kernel
theorem dX8_why_62 : decode cX8_why 62 = .ok (.iconst 3, 1) := by decide +kernel
theorem dX8_why_63 : decode cX8_why 63 = .ok (.ireturn, 1) := by decide +kernel
theorem dX8_why_64 : decode cX8_why 64 = .ok (.aload 4, 2) := by decide +kernel
theorem dX8_why_66 : decode cX8_why 66 = .ok (.iload_n 1, 1) := by decide +kernel
theorem dX8_why_67 : decode cX8_why 67 = .ok (.iload_n 2, 1) := by decide +kernel
theorem dX8_why_68 : decode cX8_why 68 = .ok (.invokevirtual 191, 3) := by decide +kernel
theorem dX8_why_71 : decode cX8_why 71 = .ok (.iload_n 3, 1) := by decide +kernel
theorem dX8_why_72 : decode cX8_why 72 = .ok (.if_icmp .eq 5, 3) := by decide +kernel
theorem dX8_why_75 : decode cX8_why 75 = .ok (.iconst 2, 1) := by decide +kernel
theorem dX8_why_76 : decode cX8_why 76 = .ok (.ireturn, 1) := by decide +kernel
theorem dX8_why_77 : decode cX8_why 77 = .ok (.aload_n 0, 1) := by decide +kernel
theorem dX8_why_78 : decode cX8_why 78 = .ok (.getfield 10, 3) := by decide +kernel
theorem dX8_why_81 : decode cX8_why 81 = .ok (.getfield 102, 3) := by decide +kernel
theorem dX8_why_84 : decode cX8_why 84 = .ok (.iload_n 3, 1) := by decide +kernel
theorem dX8_why_85 : decode cX8_why 85 = .ok (.invokevirtual 202, 3) := by decide +kernel
theorem dX8_why_88 : decode cX8_why 88 = .ok (.ifCond .eq 5, 3) := by decide +kernel
theorem dX8_why_91 : decode cX8_why 91 = .ok (.iconst 4, 1) := by decide +kernel
theorem dX8_why_92 : decode cX8_why 92 = .ok (.ireturn, 1) := by decide +kernel
theorem dX8_why_93 : decode cX8_why 93 = .ok (.aload 4, 2) := by decide +kernel
theorem dX8_why_95 : decode cX8_why 95 = .ok (.iload_n 3, 1) := by decide +kernel
theorem dX8_why_96 : decode cX8_why 96 = .ok (.iload_n 1, 1) := by decide +kernel
theorem dX8_why_97 : decode cX8_why 97 = .ok (.invokevirtual 214, 3) := by decide +kernel
theorem dX8_why_100 : decode cX8_why 100 = .ok (.iload_n 2, 1) := by decide +kernel
theorem dX8_why_101 : decode cX8_why 101 = .ok (.if_icmp .ne 7, 3) := by decide +kernel
theorem dX8_why_104 : decode cX8_why 104 = .ok (.iconst 0, 1) := by decide +kernel
theorem dX8_why_105 : decode cX8_why 105 = .ok (.goto 4, 3) := by decide +kernel
theorem dX8_why_108 : decode cX8_why 108 = .ok (.iconst 5, 1) := by decide +kernel
theorem dX8_why_109 : decode cX8_why 109 = .ok (.ireturn, 1) := by decide +kernel
theorem dX8_nested_0 : decode cX8_nested 0 = .ok (.aload_n 0, 1) := by decide +kernel
theorem dX8_nested_1 : decode cX8_nested 1 = .ok (.getfield 10, 3) := by decide +kernel
theorem dX8_nested_4 : decode cX8_nested 4 = .ok (.getfield 102, 3) := by decide +kernel
theorem dX8_nested_7 : decode cX8_nested 7 = .ok (.iload_n 1, 1) := by decide +kernel
theorem dX8_nested_8 : decode cX8_nested 8 = .ok (.invokevirtual 113, 3) := by decide +kernel
theorem dX8_nested_11 : decode cX8_nested 11 = .ok (.ifCond .eq 17, 3) := by decide +kernel
theorem dX8_nested_14 : decode cX8_nested 14 = .ok (.aload_n 0, 1) := by decide +kernel
theorem dX8_nested_15 : decode cX8_nested 15 = .ok (.getfield 10, 3) := by decide +kernel
theorem dX8_nested_18 : decode cX8_nested 18 = .ok (.getfield 102, 3) := by decide +kernel
theorem dX8_nested_21 : decode cX8_nested 21 = .ok (.iload_n 2, 1) := by decide +kernel
theorem dX8_nested_22 : decode cX8_nested 22 = .ok (.invokevirtual 113, 3) := by decide +kernel
theorem dX8_nested_25 : decode cX8_nested 25 = .ok (.ifCond .ne 5, 3) := by decide +kernel
theorem dX8_nested_28 : decode cX8_nested 28 = .ok (.iconst (-1), 1) := by decide +kernel
theorem dX8_nested_29 : decode cX8_nested 29 = .ok (.ireturn, 1) := by decide +kernel
theorem dX8_nested_30 : decode cX8_nested 30 = .ok (.aload_n 0, 1) := by decide +kernel
theorem dX8_nested_31 : decode cX8_nested 31 = .ok (.getfield 10, 3) := by decide +kernel
theorem dX8_nested_34 : decode cX8_nested 34 = .ok (.iload_n 1, 1) := by decide +kernel
theorem dX8_nested_35 : decode cX8_nested 35 = .ok (.iload_n 2, 1) := by decide +kernel
theorem dX8_nested_36 : decode cX8_nested 36 = .ok (.invokevirtual 224, 3) := by decide +kernel
theorem dX8_nested_39 : decode cX8_nested 39 = .ok (.ireturn, 1) := by decide +kernel
theorem dX8_gain_0 : decode cX8_gain 0 = .ok (.aload_n 0, 1) := by decide +kernel
theorem dX8_gain_1 : decode cX8_gain 1 = .ok (.iload_n 1, 1) := by decide +kernel
theorem dX8_gain_2 : decode cX8_gain 2 = .ok (.iload_n 2, 1) := by decide +kernel
theorem dX8_gain_3 : decode cX8_gain 3 = .ok (.iload_n 3, 1) := by decide +kernel
theorem dX8_gain_4 : decode cX8_gain 4 = .ok (.iload 4, 2) := by decide +kernel
theorem dX8_gain_6 : decode cX8_gain 6 = .ok (.invokevirtual 98, 3) := by decide +kernel
theorem dX8_gain_9 : decode cX8_gain 9 = .ok (.istore 5, 2) := by decide +kernel
theorem dX8_gain_11 : decode cX8_gain 11 = .ok (.iload 5, 2) := by decide +kernel
theorem dX8_gain_13 : decode cX8_gain 13 = .ok (.ifCond .ge 6, 3) := by decide +kernel
theorem dX8_gain_16 : decode cX8_gain 16 = .ok (.iload 5, 2) := by decide +kernel
theorem dX8_gain_18 : decode cX8_gain 18 = .ok (.ireturn, 1) := by decide +kernel
theorem dX8_gain_19 : decode cX8_gain 19 = .ok (.aload_n 0, 1) := by decide +kernel
theorem dX8_gain_20 : decode cX8_gain 20 = .ok (.invokevirtual 90, 3) := by decide +kernel
theorem dX8_gain_23 : decode cX8_gain 23 = .ok (.invokevirtual 94, 3) := by decide +kernel
theorem dX8_gain_26 : decode cX8_gain 26 = .ok (.istore 6, 2) := by decide +kernel
theorem dX8_gain_28 : decode cX8_gain 28 = .ok (.aload_n 0, 1) := by decide +kernel
theorem dX8_gain_29 : decode cX8_gain 29 = .ok (.getfield 16, 3) := by decide +kernel
theorem dX8_gain_32 : decode cX8_gain 32 = .ok (.aload_n 0, 1) := by decide +kernel
theorem dX8_gain_33 : decode cX8_gain 33 = .ok (.getfield 10, 3) := by decide +kernel
theorem dX8_gain_36 : decode cX8_gain 36 = .ok (.invokevirtual 169, 3) := by decide +kernel
theorem dX8_gain_39 : decode cX8_gain 39 = .ok (.aload_n 0, 1) := by decide +kernel
theorem dX8_gain_40 : decode cX8_gain 40 = .ok (.getfield 16, 3) := by decide +kernel
theorem dX8_gain_43 : decode cX8_gain 43 = .ok (.getfield 102, 3) := by decide +kernel
theorem dX8_gain_46 : decode cX8_gain 46 = .ok (.aload_n 0, 1) := by decide +kernel
theorem dX8_gain_47 : decode cX8_gain 47 = .ok (.getfield 42, 3) := by decide +kernel
theorem dX8_gain_50 : decode cX8_gain 50 = .ok (.iload 5, 2) := by decide +kernel
theorem dX8_gain_52 : decode cX8_gain 52 = .ok (.invokevirtual 109, 3) := by decide +kernel
theorem dX8_gain_55 : decode cX8_gain 55 = .ok (.aload_n 0, 1) := by decide +kernel
theorem dX8_gain_56 : decode cX8_gain 56 = .ok (.getfield 36, 3) := by decide +kernel
theorem dX8_gain_59 : decode cX8_gain 59 = .ok (.aload_n 0, 1) := by decide +kernel
theorem dX8_gain_60 : decode cX8_gain 60 = .ok (.getfield 16, 3) := by decide +kernel
theorem dX8_gain_63 : decode cX8_gain 63 = .ok (.invokevirtual 227, 3) := by decide +kernel
theorem dX8_gain_66 : decode cX8_gain 66 = .ok (.bipush 100, 2) := by decide +kernel
theorem dX8_gain_68 : decode cX8_gain 68 = .ok (.aload_n 0, 1) := by decide +kernel
theorem dX8_gain_69 : decode cX8_gain 69 = .ok (.getfield 36, 3) := by decide +kernel
theorem dX8_gain_72 : decode cX8_gain 72 = .ok (.invokevirtual 94, 3) := by decide +kernel
theorem dX8_gain_75 : decode cX8_gain 75 = .ok (.iadd, 1) := by decide +kernel
theorem dX8_gain_76 : decode cX8_gain 76 = .ok (.iload 6, 2) := by decide +kernel
theorem dX8_gain_78 : decode cX8_gain 78 = .ok (.isub, 1) := by decide +kernel
theorem dX8_gain_79 : decode cX8_gain 79 = .ok (.ireturn, 1) := by decide +kernel
theorem dX8_greediest_0 : decode cX8_greediest 0 = .ok (.bipush (-99), 2) := by decide +kernel
theorem dX8_greediest_2 : decode cX8_greediest 2 = .ok (.istore_n 1, 1) := by decide +kernel
theorem dX8_greediest_3 : decode cX8_greediest 3 = .ok (.iconst (-1), 1) := by decide +kernel
theorem dX8_greediest_4 : decode cX8_greediest 4 = .ok (.istore_n 2, 1) := by decide +kernel
theorem dX8_greediest_5 : decode cX8_greediest 5 = .ok (.iconst 0, 1) := by decide +kernel
theorem dX8_greediest_6 : decode cX8_greediest 6 = .ok (.istore_n 3, 1) := by decide +kernel
theorem dX8_greediest_7 : decode cX8_greediest 7 = .ok (.iload_n 3, 1) := by decide +kernel
theorem dX8_greediest_8 : decode cX8_greediest 8 = .ok (.aload_n 0, 1) := by decide +kernel
theorem dX8_greediest_9 : decode cX8_greediest 9 = .ok (.getfield 10, 3) := by decide +kernel
theorem dX8_greediest_12 : decode cX8_greediest 12 = .ok (.getfield 102, 3) := by decide +kernel
theorem dX8_greediest_15 : decode cX8_greediest 15 = .ok (.invokevirtual 106, 3) := by decide +kernel
theorem dX8_greediest_18 : decode cX8_greediest 18 = .ok (.if_icmp .ge 63, 3) := by decide +kernel
theorem dX8_greediest_21 : decode cX8_greediest 21 = .ok (.aload_n 0, 1) := by decide +kernel
theorem dX8_greediest_22 : decode cX8_greediest 22 = .ok (.getfield 16, 3) := by decide +kernel
theorem dX8_greediest_25 : decode cX8_greediest 25 = .ok (.aload_n 0, 1) := by decide +kernel
theorem dX8_greediest_26 : decode cX8_greediest 26 = .ok (.getfield 10, 3) := by decide +kernel
theorem dX8_greediest_29 : decode cX8_greediest 29 = .ok (.invokevirtual 169, 3) := by decide +kernel
theorem dX8_greediest_32 : decode cX8_greediest 32 = .ok (.aload_n 0, 1) := by decide +kernel
theorem dX8_greediest_33 : decode cX8_greediest 33 = .ok (.getfield 16, 3) := by decide +kernel
theorem dX8_greediest_36 : decode cX8_greediest 36 = .ok (.getfield 102, 3) := by decide +kernel
theorem dX8_greediest_39 : decode cX8_greediest 39 = .ok (.iload_n 3, 1) := by decide +kernel
theorem dX8_greediest_40 : decode cX8_greediest 40 = .ok (.invokevirtual 114, 3) := by decide +kernel
theorem dX8_greediest_43 : decode cX8_greediest 43 = .ok (.aload_n 0, 1) := by decide +kernel
theorem dX8_greediest_44 : decode cX8_greediest 44 = .ok (.getfield 36, 3) := by decide +kernel
theorem dX8_greediest_47 : decode cX8_greediest 47 = .ok (.aload_n 0, 1) := by decide +kernel
theorem dX8_greediest_48 : decode cX8_greediest 48 = .ok (.getfield 16, 3) := by decide +kernel
theorem dX8_greediest_51 : decode cX8_greediest 51 = .ok (.invokevirtual 227, 3) := by decide +kernel
theorem dX8_greediest_54 : decode cX8_greediest 54 = .ok (.aload_n 0, 1) := by decide +kernel
theorem dX8_greediest_55 : decode cX8_greediest 55 = .ok (.getfield 36, 3) := by decide +kernel
theorem dX8_greediest_58 : decode cX8_greediest 58 = .ok (.invokevirtual 94, 3) := by decide +kernel
theorem dX8_greediest_61 : decode cX8_greediest 61 = .ok (.iload_n 2, 1) := by decide +kernel
theorem dX8_greediest_62 : decode cX8_greediest 62 = .ok (.if_icmp .le 13, 3) := by decide +kernel
theorem dX8_greediest_65 : decode cX8_greediest 65 = .ok (.aload_n 0, 1) := by decide +kernel
theorem dX8_greediest_66 : decode cX8_greediest 66 = .ok (.getfield 36, 3) := by decide +kernel
theorem dX8_greediest_69 : decode cX8_greediest 69 = .ok (.invokevirtual 94, 3) := by decide +kernel
theorem dX8_greediest_72 : decode cX8_greediest 72 = .ok (.istore_n 2, 1) := by decide +kernel
theorem dX8_greediest_73 : decode cX8_greediest 73 = .ok (.iload_n 3, 1) := by decide +kernel
theorem dX8_greediest_74 : decode cX8_greediest 74 = .ok (.istore_n 1, 1) := by decide +kernel
theorem dX8_greediest_75 : decode cX8_greediest 75 = .ok (.iinc 3 1, 3) := by decide +kernel
theorem dX8_greediest_78 : decode cX8_greediest 78 = .ok (.goto (-71), 3) := by decide +kernel
theorem dX8_greediest_81 : decode cX8_greediest 81 = .ok (.iload_n 1, 1) := by decide +kernel
theorem dX8_greediest_82 : decode cX8_greediest 82 = .ok (.ireturn, 1) := by decide +kernel
theorem dX8_readNow_0 : decode cX8_readNow 0 = .ok (.aload_n 0, 1) := by decide +kernel
theorem dX8_readNow_1 : decode cX8_readNow 1 = .ok (.getfield 36, 3) := by decide +kernel
theorem dX8_readNow_4 : decode cX8_readNow 4 = .ok (.aload_n 0, 1) := by decide +kernel
theorem dX8_readNow_5 : decode cX8_readNow 5 = .ok (.getfield 10, 3) := by decide +kernel
theorem dX8_readNow_8 : decode cX8_readNow 8 = .ok (.invokevirtual 227, 3) := by decide +kernel
theorem dX8_readNow_11 : decode cX8_readNow 11 = .ok (.aload_n 0, 1) := by decide +kernel
theorem dX8_readNow_12 : decode cX8_readNow 12 = .ok (.getfield 36, 3) := by decide +kernel
theorem dX8_readNow_15 : decode cX8_readNow 15 = .ok (.areturn, 1) := by decide +kernel
theorem dX8_ask_0 : decode cX8_ask 0 = .ok (.aload_n 0, 1) := by decide +kernel
theorem dX8_ask_1 : decode cX8_ask 1 = .ok (.getfield 42, 3) := by decide +kernel
theorem dX8_ask_4 : decode cX8_ask 4 = .ok (.iconst 0, 1) := by decide +kernel
theorem dX8_ask_5 : decode cX8_ask 5 = .ok (.iload_n 1, 1) := by decide +kernel
theorem dX8_ask_6 : decode cX8_ask 6 = .ok (.iastore, 1) := by decide +kernel
theorem dX8_ask_7 : decode cX8_ask 7 = .ok (.aload_n 0, 1) := by decide +kernel
theorem dX8_ask_8 : decode cX8_ask 8 = .ok (.getfield 42, 3) := by decide +kernel
theorem dX8_ask_11 : decode cX8_ask 11 = .ok (.iconst 1, 1) := by decide +kernel
theorem dX8_ask_12 : decode cX8_ask 12 = .ok (.iload_n 2, 1) := by decide +kernel
theorem dX8_ask_13 : decode cX8_ask 13 = .ok (.iastore, 1) := by decide +kernel
theorem dX8_ask_14 : decode cX8_ask 14 = .ok (.aload_n 0, 1) := by decide +kernel
theorem dX8_ask_15 : decode cX8_ask 15 = .ok (.getfield 42, 3) := by decide +kernel
theorem dX8_ask_18 : decode cX8_ask 18 = .ok (.iconst 2, 1) := by decide +kernel
theorem dX8_ask_19 : decode cX8_ask 19 = .ok (.iload_n 3, 1) := by decide +kernel
theorem dX8_ask_20 : decode cX8_ask 20 = .ok (.iastore, 1) := by decide +kernel
theorem dX8_ask_21 : decode cX8_ask 21 = .ok (.aload_n 0, 1) := by decide +kernel
theorem dX8_ask_22 : decode cX8_ask 22 = .ok (.getfield 42, 3) := by decide +kernel
theorem dX8_ask_25 : decode cX8_ask 25 = .ok (.iconst 3, 1) := by decide +kernel
theorem dX8_ask_26 : decode cX8_ask 26 = .ok (.iload 4, 2) := by decide +kernel
theorem dX8_ask_28 : decode cX8_ask 28 = .ok (.iastore, 1) := by decide +kernel
theorem dX8_ask_29 : decode cX8_ask 29 = .ok (.aload_n 0, 1) := by decide +kernel
theorem dX8_ask_30 : decode cX8_ask 30 = .ok (.invokevirtual 229, 3) := by decide +kernel
theorem dX8_ask_33 : decode cX8_ask 33 = .ok (.istore 5, 2) := by decide +kernel
theorem dX8_ask_35 : decode cX8_ask 35 = .ok (.iload 5, 2) := by decide +kernel
theorem dX8_ask_37 : decode cX8_ask 37 = .ok (.ifCond .le 32, 3) := by decide +kernel
theorem dX8_ask_40 : decode cX8_ask 40 = .ok (.aload_n 0, 1) := by decide +kernel
theorem dX8_ask_41 : decode cX8_ask 41 = .ok (.getfield 10, 3) := by decide +kernel
theorem dX8_ask_44 : decode cX8_ask 44 = .ok (.getfield 102, 3) := by decide +kernel
theorem dX8_ask_47 : decode cX8_ask 47 = .ok (.aload_n 0, 1) := by decide +kernel
theorem dX8_ask_48 : decode cX8_ask 48 = .ok (.getfield 10, 3) := by decide +kernel
theorem dX8_ask_51 : decode cX8_ask 51 = .ok (.getfield 60, 3) := by decide +kernel
theorem dX8_ask_54 : decode cX8_ask 54 = .ok (.aload_n 0, 1) := by decide +kernel
theorem dX8_ask_55 : decode cX8_ask 55 = .ok (.getfield 42, 3) := by decide +kernel
theorem dX8_ask_58 : decode cX8_ask 58 = .ok (.iload 5, 2) := by decide +kernel
theorem dX8_ask_60 : decode cX8_ask 60 = .ok (.invokevirtual 232, 3) := by decide +kernel
theorem dX8_ask_63 : decode cX8_ask 63 = .ok (.ifCond .eq 6, 3) := by decide +kernel
theorem dX8_ask_66 : decode cX8_ask 66 = .ok (.bipush (-2), 2) := by decide +kernel
theorem dX8_ask_68 : decode cX8_ask 68 = .ok (.ireturn, 1) := by decide +kernel
theorem dX8_ask_69 : decode cX8_ask 69 = .ok (.iload 5, 2) := by decide +kernel
theorem dX8_ask_71 : decode cX8_ask 71 = .ok (.ireturn, 1) := by decide +kernel
theorem dX8_askedLength_0 : decode cX8_askedLength 0 = .ok (.iconst 0, 1) := by decide +kernel
theorem dX8_askedLength_1 : decode cX8_askedLength 1 = .ok (.istore_n 1, 1) := by decide +kernel
theorem dX8_askedLength_2 : decode cX8_askedLength 2 = .ok (.iconst 0, 1) := by decide +kernel
theorem dX8_askedLength_3 : decode cX8_askedLength 3 = .ok (.istore_n 2, 1) := by decide +kernel
theorem dX8_askedLength_4 : decode cX8_askedLength 4 = .ok (.iload_n 2, 1) := by decide +kernel
theorem dX8_askedLength_5 : decode cX8_askedLength 5 = .ok (.iconst 4, 1) := by decide +kernel
theorem dX8_askedLength_6 : decode cX8_askedLength 6 = .ok (.if_icmp .ge 51, 3) := by decide +kernel
theorem dX8_askedLength_9 : decode cX8_askedLength 9 = .ok (.aload_n 0, 1) := by decide +kernel
theorem dX8_askedLength_10 : decode cX8_askedLength 10 = .ok (.getfield 42, 3) := by decide +kernel
theorem dX8_askedLength_13 : decode cX8_askedLength 13 = .ok (.iload_n 2, 1) := by decide +kernel
theorem dX8_askedLength_14 : decode cX8_askedLength 14 = .ok (.iaload, 1) := by decide +kernel
theorem dX8_askedLength_15 : decode cX8_askedLength 15 = .ok (.iconst (-1), 1) := by decide +kernel
theorem dX8_askedLength_16 : decode cX8_askedLength 16 = .ok (.if_icmp .ne 6, 3) := by decide +kernel
theorem dX8_askedLength_19 : decode cX8_askedLength 19 = .ok (.goto 32, 3) := by decide +kernel
theorem dX8_askedLength_22 : decode cX8_askedLength 22 = .ok (.aload_n 0, 1) := by decide +kernel
theorem dX8_askedLength_23 : decode cX8_askedLength 23 = .ok (.getfield 10, 3) := by decide +kernel
theorem dX8_askedLength_26 : decode cX8_askedLength 26 = .ok (.getfield 60, 3) := by decide +kernel
theorem dX8_askedLength_29 : decode cX8_askedLength 29 = .ok (.aload_n 0, 1) := by decide +kernel
theorem dX8_askedLength_30 : decode cX8_askedLength 30 = .ok (.getfield 42, 3) := by decide +kernel
theorem dX8_askedLength_33 : decode cX8_askedLength 33 = .ok (.iload_n 2, 1) := by decide +kernel
theorem dX8_askedLength_34 : decode cX8_askedLength 34 = .ok (.iaload, 1) := by decide +kernel
theorem dX8_askedLength_35 : decode cX8_askedLength 35 = .ok (.invokevirtual 64, 3) := by decide +kernel
theorem dX8_askedLength_38 : decode cX8_askedLength 38 = .ok (.ifCond .eq 8, 3) := by decide +kernel
theorem dX8_askedLength_41 : decode cX8_askedLength 41 = .ok (.iload_n 2, 1) := by decide +kernel
theorem dX8_askedLength_42 : decode cX8_askedLength 42 = .ok (.iload_n 1, 1) := by decide +kernel
theorem dX8_askedLength_43 : decode cX8_askedLength 43 = .ok (.if_icmp .le 5, 3) := by decide +kernel
theorem dX8_askedLength_46 : decode cX8_askedLength 46 = .ok (.iconst (-1), 1) := by decide +kernel
theorem dX8_askedLength_47 : decode cX8_askedLength 47 = .ok (.ireturn, 1) := by decide +kernel
theorem dX8_askedLength_48 : decode cX8_askedLength 48 = .ok (.iinc 1 1, 3) := by decide +kernel
theorem dX8_askedLength_51 : decode cX8_askedLength 51 = .ok (.iinc 2 1, 3) := by decide +kernel
theorem dX8_askedLength_54 : decode cX8_askedLength 54 = .ok (.goto (-50), 3) := by decide +kernel
theorem dX8_askedLength_57 : decode cX8_askedLength 57 = .ok (.iload_n 1, 1) := by decide +kernel
theorem dX8_askedLength_58 : decode cX8_askedLength 58 = .ok (.ifCond .ne 7, 3) := by decide +kernel
theorem dX8_askedLength_61 : decode cX8_askedLength 61 = .ok (.iconst (-1), 1) := by decide +kernel
theorem dX8_askedLength_62 : decode cX8_askedLength 62 = .ok (.goto 4, 3) := by decide +kernel
theorem dX8_askedLength_65 : decode cX8_askedLength 65 = .ok (.iload_n 1, 1) := by decide +kernel
theorem dX8_askedLength_66 : decode cX8_askedLength 66 = .ok (.ireturn, 1) := by decide +kernel
theorem dL_cell_0 : decode cL_cell 0 = .ok (.iload_n 1, 1) := by decide +kernel
theorem dL_cell_1 : decode cL_cell 1 = .ok (.aload_n 0, 1) := by decide +kernel
theorem dL_cell_2 : decode cL_cell 2 = .ok (.arraylength, 1) := by decide +kernel
theorem dL_cell_3 : decode cL_cell 3 = .ok (.if_icmp .ge 9, 3) := by decide +kernel
theorem dL_cell_6 : decode cL_cell 6 = .ok (.aload_n 0, 1) := by decide +kernel
theorem dL_cell_7 : decode cL_cell 7 = .ok (.iload_n 1, 1) := by decide +kernel
theorem dL_cell_8 : decode cL_cell 8 = .ok (.iaload, 1) := by decide +kernel
theorem dL_cell_9 : decode cL_cell 9 = .ok (.goto 9, 3) := by decide +kernel
theorem dL_cell_12 : decode cL_cell 12 = .ok (.ldc 7, 2) := by decide +kernel
theorem dL_cell_14 : decode cL_cell 14 = .ok (.iload_n 1, 1) := by decide +kernel
theorem dL_cell_15 : decode cL_cell 15 = .ok (.iconst 3, 1) := by decide +kernel
theorem dL_cell_16 : decode cL_cell 16 = .ok (.iadd, 1) := by decide +kernel
theorem dL_cell_17 : decode cL_cell 17 = .ok (.imul, 1) := by decide +kernel
theorem dL_cell_18 : decode cL_cell 18 = .ok (.istore_n 2, 1) := by decide +kernel
theorem dL_cell_19 : decode cL_cell 19 = .ok (.iload_n 2, 1) := by decide +kernel
theorem dL_cell_20 : decode cL_cell 20 = .ok (.iload_n 2, 1) := by decide +kernel
theorem dL_cell_21 : decode cL_cell 21 = .ok (.bipush 15, 2) := by decide +kernel
theorem dL_cell_23 : decode cL_cell 23 = .ok (.iushr, 1) := by decide +kernel
theorem dL_cell_24 : decode cL_cell 24 = .ok (.ixor, 1) := by decide +kernel
theorem dL_cell_25 : decode cL_cell 25 = .ok (.ireturn, 1) := by decide +kernel
theorem dL_low_0 : decode cL_low 0 = .ok (.iload_n 0, 1) := by decide +kernel
theorem dL_low_1 : decode cL_low 1 = .ok (.ldc 8, 2) := by decide +kernel
theorem dL_low_3 : decode cL_low 3 = .ok (.iand, 1) := by decide +kernel
theorem dL_low_4 : decode cL_low 4 = .ok (.iload_n 1, 1) := by decide +kernel
theorem dL_low_5 : decode cL_low 5 = .ok (.irem, 1) := by decide +kernel
theorem dL_low_6 : decode cL_low 6 = .ok (.ireturn, 1) := by decide +kernel
theorem dL_print_0 : decode cL_print 0 = .ok (.ldc2_w 9, 3) := by decide +kernel
theorem dL_print_3 : decode cL_print 3 = .ok (.lstore_n 1, 1) := by decide +kernel
theorem dL_print_4 : decode cL_print 4 = .ok (.iconst 0, 1) := by decide +kernel
theorem dL_print_5 : decode cL_print 5 = .ok (.istore_n 3, 1) := by decide +kernel
theorem dL_print_6 : decode cL_print 6 = .ok (.iload_n 3, 1) := by decide +kernel
theorem dL_print_7 : decode cL_print 7 = .ok (.bipush 8, 2) := by decide +kernel
theorem dL_print_9 : decode cL_print 9 = .ok (.if_icmp .ge 22, 3) := by decide +kernel
theorem dL_print_12 : decode cL_print 12 = .ok (.ldc2_w 11, 3) := by decide +kernel
theorem dL_print_15 : decode cL_print 15 = .ok (.lload_n 1, 1) := by decide +kernel
theorem dL_print_16 : decode cL_print 16 = .ok (.lmul, 1) := by decide +kernel
theorem dL_print_17 : decode cL_print 17 = .ok (.aload_n 0, 1) := by decide +kernel
theorem dL_print_18 : decode cL_print 18 = .ok (.iload_n 3, 1) := by decide +kernel
theorem dL_print_19 : decode cL_print 19 = .ok (.invokevirtual 13, 3) := by decide +kernel
theorem dL_print_22 : decode cL_print 22 = .ok (.i2l, 1) := by decide +kernel
theorem dL_print_23 : decode cL_print 23 = .ok (.ladd, 1) := by decide +kernel
theorem dL_print_24 : decode cL_print 24 = .ok (.lstore_n 1, 1) := by decide +kernel
theorem dL_print_25 : decode cL_print 25 = .ok (.iinc 3 1, 3) := by decide +kernel
theorem dL_print_28 : decode cL_print 28 = .ok (.goto (-22), 3) := by decide +kernel
theorem dL_print_31 : decode cL_print 31 = .ok (.iconst 0, 1) := by decide +kernel
theorem dL_print_32 : decode cL_print 32 = .ok (.istore_n 3, 1) := by decide +kernel
theorem dL_print_33 : decode cL_print 33 = .ok (.iload_n 3, 1) := by decide +kernel
theorem dL_print_34 : decode cL_print 34 = .ok (.bipush 6, 2) := by decide +kernel
theorem dL_print_36 : decode cL_print 36 = .ok (.if_icmp .ge 55, 3) := by decide +kernel
theorem dL_print_39 : decode cL_print 39 = .ok (.iconst 0, 1) := by decide +kernel
theorem dL_print_40 : decode cL_print 40 = .ok (.istore 4, 2) := by decide +kernel
theorem dL_print_42 : decode cL_print 42 = .ok (.iload 4, 2) := by decide +kernel
theorem dL_print_44 : decode cL_print 44 = .ok (.bipush 40, 2) := by decide +kernel
theorem dL_print_46 : decode cL_print 46 = .ok (.if_icmp .ge 39, 3) := by decide +kernel
theorem dL_print_49 : decode cL_print 49 = .ok (.ldc2_w 11, 3) := by decide +kernel
theorem dL_print_52 : decode cL_print 52 = .ok (.ldc2_w 11, 3) := by decide +kernel
theorem dL_print_55 : decode cL_print 55 = .ok (.lload_n 1, 1) := by decide +kernel
theorem dL_print_56 : decode cL_print 56 = .ok (.lmul, 1) := by decide +kernel
theorem dL_print_57 : decode cL_print 57 = .ok (.aload_n 0, 1) := by decide +kernel
theorem dL_print_58 : decode cL_print 58 = .ok (.iload_n 3, 1) := by decide +kernel
theorem dL_print_59 : decode cL_print 59 = .ok (.iload 4, 2) := by decide +kernel
theorem dL_print_61 : decode cL_print 61 = .ok (.iconst 0, 1) := by decide +kernel
theorem dL_print_62 : decode cL_print 62 = .ok (.invokevirtual 19, 3) := by decide +kernel
theorem dL_print_65 : decode cL_print 65 = .ok (.i2l, 1) := by decide +kernel
theorem dL_print_66 : decode cL_print 66 = .ok (.ladd, 1) := by decide +kernel
theorem dL_print_67 : decode cL_print 67 = .ok (.lmul, 1) := by decide +kernel
theorem dL_print_68 : decode cL_print 68 = .ok (.aload_n 0, 1) := by decide +kernel
theorem dL_print_69 : decode cL_print 69 = .ok (.iload_n 3, 1) := by decide +kernel
theorem dL_print_70 : decode cL_print 70 = .ok (.iload 4, 2) := by decide +kernel
theorem dL_print_72 : decode cL_print 72 = .ok (.iconst 2, 1) := by decide +kernel
theorem dL_print_73 : decode cL_print 73 = .ok (.invokevirtual 19, 3) := by decide +kernel
theorem dL_print_76 : decode cL_print 76 = .ok (.i2l, 1) := by decide +kernel
theorem dL_print_77 : decode cL_print 77 = .ok (.ladd, 1) := by decide +kernel
theorem dL_print_78 : decode cL_print 78 = .ok (.lstore_n 1, 1) := by decide +kernel
theorem dL_print_79 : decode cL_print 79 = .ok (.iinc 4 1, 3) := by decide +kernel
theorem dL_print_82 : decode cL_print 82 = .ok (.goto (-40), 3) := by decide +kernel
theorem dL_print_85 : decode cL_print 85 = .ok (.iinc 3 1, 3) := by decide +kernel
theorem dL_print_88 : decode cL_print 88 = .ok (.goto (-55), 3) := by decide +kernel
theorem dL_print_91 : decode cL_print 91 = .ok (.iconst 0, 1) := by decide +kernel
theorem dL_print_92 : decode cL_print 92 = .ok (.istore_n 3, 1) := by decide +kernel
theorem dL_print_93 : decode cL_print 93 = .ok (.iload_n 3, 1) := by decide +kernel
theorem dL_print_94 : decode cL_print 94 = .ok (.bipush 12, 2) := by decide +kernel
theorem dL_print_96 : decode cL_print 96 = .ok (.if_icmp .ge 40, 3) := by decide +kernel
theorem dL_print_99 : decode cL_print 99 = .ok (.iconst 0, 1) := by decide +kernel
theorem dL_print_100 : decode cL_print 100 = .ok (.istore 4, 2) := by decide +kernel
theorem dL_print_102 : decode cL_print 102 = .ok (.iload 4, 2) := by decide +kernel
theorem dL_print_104 : decode cL_print 104 = .ok (.bipush 6, 2) := by decide +kernel
theorem dL_print_106 : decode cL_print 106 = .ok (.if_icmp .ge 24, 3) := by decide +kernel
theorem dL_print_109 : decode cL_print 109 = .ok (.ldc2_w 11, 3) := by decide +kernel
theorem dL_print_112 : decode cL_print 112 = .ok (.lload_n 1, 1) := by decide +kernel
theorem dL_print_113 : decode cL_print 113 = .ok (.lmul, 1) := by decide +kernel
theorem dL_print_114 : decode cL_print 114 = .ok (.aload_n 0, 1) := by decide +kernel
theorem dL_print_115 : decode cL_print 115 = .ok (.iload_n 3, 1) := by decide +kernel
theorem dL_print_116 : decode cL_print 116 = .ok (.iload 4, 2) := by decide +kernel
theorem dL_print_118 : decode cL_print 118 = .ok (.invokevirtual 23, 3) := by decide +kernel
theorem dL_print_121 : decode cL_print 121 = .ok (.i2l, 1) := by decide +kernel
theorem dL_print_122 : decode cL_print 122 = .ok (.ladd, 1) := by decide +kernel
theorem dL_print_123 : decode cL_print 123 = .ok (.lstore_n 1, 1) := by decide +kernel
theorem dL_print_124 : decode cL_print 124 = .ok (.iinc 4 1, 3) := by decide +kernel
theorem dL_print_127 : decode cL_print 127 = .ok (.goto (-25), 3) := by decide +kernel
theorem dL_print_130 : decode cL_print 130 = .ok (.iinc 3 1, 3) := by decide +kernel
theorem dL_print_133 : decode cL_print 133 = .ok (.goto (-40), 3) := by decide +kernel
theorem dL_print_136 : decode cL_print 136 = .ok (.iconst 0, 1) := by decide +kernel
theorem dL_print_137 : decode cL_print 137 = .ok (.istore_n 3, 1) := by decide +kernel
theorem dL_print_138 : decode cL_print 138 = .ok (.iload_n 3, 1) := by decide +kernel
theorem dL_print_139 : decode cL_print 139 = .ok (.bipush 60, 2) := by decide +kernel
theorem dL_print_141 : decode cL_print 141 = .ok (.if_icmp .ge 22, 3) := by decide +kernel
theorem dL_print_144 : decode cL_print 144 = .ok (.ldc2_w 11, 3) := by decide +kernel
theorem dL_print_147 : decode cL_print 147 = .ok (.lload_n 1, 1) := by decide +kernel
theorem dL_print_148 : decode cL_print 148 = .ok (.lmul, 1) := by decide +kernel
theorem dL_print_149 : decode cL_print 149 = .ok (.aload_n 0, 1) := by decide +kernel
theorem dL_print_150 : decode cL_print 150 = .ok (.iload_n 3, 1) := by decide +kernel
theorem dL_print_151 : decode cL_print 151 = .ok (.invokevirtual 27, 3) := by decide +kernel
theorem dL_print_154 : decode cL_print 154 = .ok (.i2l, 1) := by decide +kernel
theorem dL_print_155 : decode cL_print 155 = .ok (.ladd, 1) := by decide +kernel
theorem dL_print_156 : decode cL_print 156 = .ok (.lstore_n 1, 1) := by decide +kernel
theorem dL_print_157 : decode cL_print 157 = .ok (.iinc 3 1, 3) := by decide +kernel
theorem dL_print_160 : decode cL_print 160 = .ok (.goto (-22), 3) := by decide +kernel
theorem dL_print_163 : decode cL_print 163 = .ok (.lload_n 1, 1) := by decide +kernel
theorem dL_print_164 : decode cL_print 164 = .ok (.lreturn, 1) := by decide +kernel
theorem dL_refused_0 : decode cL_refused 0 = .ok (.aload_n 0, 1) := by decide +kernel
theorem dL_refused_1 : decode cL_refused 1 = .ok (.invokestatic 30, 3) := by decide +kernel
theorem dL_refused_4 : decode cL_refused 4 = .ok (.lstore_n 1, 1) := by decide +kernel
theorem dL_refused_5 : decode cL_refused 5 = .ok (.aload_n 0, 1) := by decide +kernel
theorem dL_refused_6 : decode cL_refused 6 = .ok (.iconst 0, 1) := by decide +kernel
theorem dL_refused_7 : decode cL_refused 7 = .ok (.invokevirtual 13, 3) := by decide +kernel
theorem dL_refused_10 : decode cL_refused 10 = .ok (.istore_n 3, 1) := by decide +kernel
theorem dL_refused_11 : decode cL_refused 11 = .ok (.aload_n 0, 1) := by decide +kernel
theorem dL_refused_12 : decode cL_refused 12 = .ok (.iconst 2, 1) := by decide +kernel
theorem dL_refused_13 : decode cL_refused 13 = .ok (.invokevirtual 13, 3) := by decide +kernel
theorem dL_refused_16 : decode cL_refused 16 = .ok (.istore 4, 2) := by decide +kernel
theorem dL_refused_18 : decode cL_refused 18 = .ok (.aload_n 0, 1) := by decide +kernel
theorem dL_refused_19 : decode cL_refused 19 = .ok (.iconst (-1), 1) := by decide +kernel
theorem dL_refused_20 : decode cL_refused 20 = .ok (.iconst 0, 1) := by decide +kernel
theorem dL_refused_21 : decode cL_refused 21 = .ok (.iconst 0, 1) := by decide +kernel
theorem dL_refused_22 : decode cL_refused 22 = .ok (.invokevirtual 36, 3) := by decide +kernel
theorem dL_refused_25 : decode cL_refused 25 = .ok (.iconst (-1), 1) := by decide +kernel
theorem dL_refused_26 : decode cL_refused 26 = .ok (.if_icmp .ne 176, 3) := by decide +kernel
theorem dL_refused_29 : decode cL_refused 29 = .ok (.aload_n 0, 1) := by decide +kernel
theorem dL_refused_30 : decode cL_refused 30 = .ok (.iconst 0, 1) := by decide +kernel
theorem dL_refused_31 : decode cL_refused 31 = .ok (.bipush 41, 2) := by decide +kernel
theorem dL_refused_33 : decode cL_refused 33 = .ok (.iconst 0, 1) := by decide +kernel
theorem dL_refused_34 : decode cL_refused 34 = .ok (.invokevirtual 36, 3) := by decide +kernel
theorem dL_refused_37 : decode cL_refused 37 = .ok (.iconst (-1), 1) := by decide +kernel
theorem dL_refused_38 : decode cL_refused 38 = .ok (.if_icmp .ne 164, 3) := by decide +kernel
theorem dL_refused_41 : decode cL_refused 41 = .ok (.aload_n 0, 1) := by decide +kernel
theorem dL_refused_42 : decode cL_refused 42 = .ok (.iconst 0, 1) := by decide +kernel
theorem dL_refused_43 : decode cL_refused 43 = .ok (.iconst 0, 1) := by decide +kernel
theorem dL_refused_44 : decode cL_refused 44 = .ok (.iload_n 3, 1) := by decide +kernel
theorem dL_refused_45 : decode cL_refused 45 = .ok (.invokevirtual 36, 3) := by decide +kernel
theorem dL_refused_48 : decode cL_refused 48 = .ok (.iconst (-1), 1) := by decide +kernel
theorem dL_refused_49 : decode cL_refused 49 = .ok (.if_icmp .ne 153, 3) := by decide +kernel
theorem dL_refused_52 : decode cL_refused 52 = .ok (.aload_n 0, 1) := by decide +kernel
theorem dL_refused_53 : decode cL_refused 53 = .ok (.iconst 0, 1) := by decide +kernel
theorem dL_refused_54 : decode cL_refused 54 = .ok (.iconst 1, 1) := by decide +kernel
theorem dL_refused_55 : decode cL_refused 55 = .ok (.iconst 0, 1) := by decide +kernel
theorem dL_refused_56 : decode cL_refused 56 = .ok (.invokevirtual 39, 3) := by decide +kernel
theorem dL_refused_59 : decode cL_refused 59 = .ok (.iconst (-1), 1) := by decide +kernel
theorem dL_refused_60 : decode cL_refused 60 = .ok (.if_icmp .ne 142, 3) := by decide +kernel
theorem dL_refused_63 : decode cL_refused 63 = .ok (.aload_n 0, 1) := by decide +kernel
theorem dL_refused_64 : decode cL_refused 64 = .ok (.bipush 6, 2) := by decide +kernel
theorem dL_refused_66 : decode cL_refused 66 = .ok (.iconst 0, 1) := by decide +kernel
theorem dL_refused_67 : decode cL_refused 67 = .ok (.iconst 0, 1) := by decide +kernel
theorem dL_refused_68 : decode cL_refused 68 = .ok (.invokevirtual 39, 3) := by decide +kernel
theorem dL_refused_71 : decode cL_refused 71 = .ok (.iconst (-1), 1) := by decide +kernel
theorem dL_refused_72 : decode cL_refused 72 = .ok (.if_icmp .ne 130, 3) := by decide +kernel
theorem dL_refused_75 : decode cL_refused 75 = .ok (.aload_n 0, 1) := by decide +kernel
theorem dL_refused_76 : decode cL_refused 76 = .ok (.iconst 2, 1) := by decide +kernel
theorem dL_refused_77 : decode cL_refused 77 = .ok (.iconst 2, 1) := by decide +kernel
theorem dL_refused_78 : decode cL_refused 78 = .ok (.invokevirtual 42, 3) := by decide +kernel
theorem dL_refused_81 : decode cL_refused 81 = .ok (.iconst (-1), 1) := by decide +kernel
theorem dL_refused_82 : decode cL_refused 82 = .ok (.if_icmp .ne 120, 3) := by decide +kernel
theorem dL_refused_85 : decode cL_refused 85 = .ok (.aload_n 0, 1) := by decide +kernel
theorem dL_refused_86 : decode cL_refused 86 = .ok (.iconst 0, 1) := by decide +kernel
theorem dL_refused_87 : decode cL_refused 87 = .ok (.iload_n 3, 1) := by decide +kernel
theorem dL_refused_88 : decode cL_refused 88 = .ok (.invokevirtual 42, 3) := by decide +kernel
theorem dL_refused_91 : decode cL_refused 91 = .ok (.iconst (-1), 1) := by decide +kernel
theorem dL_refused_92 : decode cL_refused 92 = .ok (.if_icmp .ne 110, 3) := by decide +kernel
theorem dL_refused_95 : decode cL_refused 95 = .ok (.aload_n 0, 1) := by decide +kernel
theorem dL_refused_96 : decode cL_refused 96 = .ok (.iconst (-1), 1) := by decide +kernel
theorem dL_refused_97 : decode cL_refused 97 = .ok (.iconst 0, 1) := by decide +kernel
theorem dL_refused_98 : decode cL_refused 98 = .ok (.invokevirtual 45, 3) := by decide +kernel
theorem dL_refused_101 : decode cL_refused 101 = .ok (.iconst (-1), 1) := by decide +kernel
theorem dL_refused_102 : decode cL_refused 102 = .ok (.if_icmp .ne 100, 3) := by decide +kernel
theorem dL_refused_105 : decode cL_refused 105 = .ok (.aload_n 0, 1) := by decide +kernel
theorem dL_refused_106 : decode cL_refused 106 = .ok (.iconst (-1), 1) := by decide +kernel
theorem dL_refused_107 : decode cL_refused 107 = .ok (.iconst 0, 1) := by decide +kernel
theorem dL_refused_108 : decode cL_refused 108 = .ok (.iconst (-1), 1) := by decide +kernel
theorem dL_refused_109 : decode cL_refused 109 = .ok (.iconst (-1), 1) := by decide +kernel
theorem dL_refused_110 : decode cL_refused 110 = .ok (.invokevirtual 48, 3) := by decide +kernel
theorem dL_refused_113 : decode cL_refused 113 = .ok (.iconst (-1), 1) := by decide +kernel
theorem dL_refused_114 : decode cL_refused 114 = .ok (.if_icmp .ne 88, 3) := by decide +kernel
theorem dL_refused_117 : decode cL_refused 117 = .ok (.aload_n 0, 1) := by decide +kernel
theorem dL_refused_118 : decode cL_refused 118 = .ok (.iconst 0, 1) := by decide +kernel
theorem dL_refused_119 : decode cL_refused 119 = .ok (.iconst 1, 1) := by decide +kernel
theorem dL_refused_120 : decode cL_refused 120 = .ok (.iconst 2, 1) := by decide +kernel
theorem dL_refused_121 : decode cL_refused 121 = .ok (.iload_n 3, 1) := by decide +kernel
theorem dL_refused_122 : decode cL_refused 122 = .ok (.invokevirtual 48, 3) := by decide +kernel
theorem dL_refused_125 : decode cL_refused 125 = .ok (.iconst (-1), 1) := by decide +kernel
theorem dL_refused_126 : decode cL_refused 126 = .ok (.if_icmp .ne 76, 3) := by decide +kernel
theorem dL_refused_129 : decode cL_refused 129 = .ok (.aload_n 0, 1) := by decide +kernel
theorem dL_refused_130 : decode cL_refused 130 = .ok (.iconst 0, 1) := by decide +kernel
theorem dL_refused_131 : decode cL_refused 131 = .ok (.iconst (-1), 1) := by decide +kernel
theorem dL_refused_132 : decode cL_refused 132 = .ok (.iconst (-1), 1) := by decide +kernel
theorem dL_refused_133 : decode cL_refused 133 = .ok (.iconst 0, 1) := by decide +kernel
theorem dL_refused_134 : decode cL_refused 134 = .ok (.invokevirtual 48, 3) := by decide +kernel
theorem dL_refused_137 : decode cL_refused 137 = .ok (.iconst (-1), 1) := by decide +kernel
theorem dL_refused_138 : decode cL_refused 138 = .ok (.if_icmp .ne 64, 3) := by decide +kernel
theorem dL_refused_141 : decode cL_refused 141 = .ok (.aload_n 0, 1) := by decide +kernel
theorem dL_refused_142 : decode cL_refused 142 = .ok (.iload 4, 2) := by decide +kernel
theorem dL_refused_144 : decode cL_refused 144 = .ok (.invokevirtual 52, 3) := by decide +kernel
theorem dL_refused_147 : decode cL_refused 147 = .ok (.iconst (-1), 1) := by decide +kernel
theorem dL_refused_148 : decode cL_refused 148 = .ok (.if_icmp .ne 54, 3) := by decide +kernel
theorem dL_refused_151 : decode cL_refused 151 = .ok (.aload_n 0, 1) := by decide +kernel
theorem dL_refused_152 : decode cL_refused 152 = .ok (.iconst 0, 1) := by decide +kernel
theorem dL_refused_153 : decode cL_refused 153 = .ok (.iconst 2, 1) := by decide +kernel
theorem dL_refused_154 : decode cL_refused 154 = .ok (.invokevirtual 55, 3) := by decide +kernel
theorem dL_refused_157 : decode cL_refused 157 = .ok (.iconst (-1), 1) := by decide +kernel
theorem dL_refused_158 : decode cL_refused 158 = .ok (.if_icmp .ne 44, 3) := by decide +kernel
theorem dL_refused_161 : decode cL_refused 161 = .ok (.aload_n 0, 1) := by decide +kernel
theorem dL_refused_162 : decode cL_refused 162 = .ok (.iload_n 3, 1) := by decide +kernel
theorem dL_refused_163 : decode cL_refused 163 = .ok (.iconst 0, 1) := by decide +kernel
theorem dL_refused_164 : decode cL_refused 164 = .ok (.invokevirtual 58, 3) := by decide +kernel
theorem dL_refused_167 : decode cL_refused 167 = .ok (.iconst (-1), 1) := by decide +kernel
theorem dL_refused_168 : decode cL_refused 168 = .ok (.if_icmp .ne 34, 3) := by decide +kernel
theorem dL_refused_171 : decode cL_refused 171 = .ok (.aload_n 0, 1) := by decide +kernel
theorem dL_refused_172 : decode cL_refused 172 = .ok (.iconst (-1), 1) := by decide +kernel
theorem dL_refused_173 : decode cL_refused 173 = .ok (.invokevirtual 61, 3) := by decide +kernel
theorem dL_refused_176 : decode cL_refused 176 = .ok (.iconst (-1), 1) := by decide +kernel
theorem dL_refused_177 : decode cL_refused 177 = .ok (.if_icmp .ne 25, 3) := by decide +kernel
theorem dL_refused_180 : decode cL_refused 180 = .ok (.aload_n 0, 1) := by decide +kernel
theorem dL_refused_181 : decode cL_refused 181 = .ok (.iconst 2, 1) := by decide +kernel
theorem dL_refused_182 : decode cL_refused 182 = .ok (.invokevirtual 64, 3) := by decide +kernel
theorem dL_refused_185 : decode cL_refused 185 = .ok (.iconst (-1), 1) := by decide +kernel
theorem dL_refused_186 : decode cL_refused 186 = .ok (.if_icmp .ne 16, 3) := by decide +kernel
theorem dL_refused_189 : decode cL_refused 189 = .ok (.aload_n 0, 1) := by decide +kernel
theorem dL_refused_190 : decode cL_refused 190 = .ok (.iconst 0, 1) := by decide +kernel
theorem dL_refused_191 : decode cL_refused 191 = .ok (.invokevirtual 67, 3) := by decide +kernel
theorem dL_refused_194 : decode cL_refused 194 = .ok (.iconst (-1), 1) := by decide +kernel
theorem dL_refused_195 : decode cL_refused 195 = .ok (.if_icmp .ne 7, 3) := by decide +kernel
theorem dL_refused_198 : decode cL_refused 198 = .ok (.iconst 1, 1) := by decide +kernel
theorem dL_refused_199 : decode cL_refused 199 = .ok (.goto 4, 3) := by decide +kernel
theorem dL_refused_202 : decode cL_refused 202 = .ok (.iconst 0, 1) := by decide +kernel
theorem dL_refused_203 : decode cL_refused 203 = .ok (.istore 5, 2) := by decide +kernel
theorem dL_refused_205 : decode cL_refused 205 = .ok (.iload 5, 2) := by decide +kernel
theorem dL_refused_207 : decode cL_refused 207 = .ok (.ifCond .eq 133, 3) := by decide +kernel
theorem dL_refused_210 : decode cL_refused 210 = .ok (.aload_n 0, 1) := by decide +kernel
theorem dL_refused_211 : decode cL_refused 211 = .ok (.bipush 10, 2) := by decide +kernel
theorem dL_refused_213 : decode cL_refused 213 = .ok (.invokevirtual 13, 3) := by decide +kernel
theorem dL_refused_216 : decode cL_refused 216 = .ok (.iconst (-1), 1) := by decide +kernel
theorem dL_refused_217 : decode cL_refused 217 = .ok (.if_icmp .ne 123, 3) := by decide +kernel
theorem dL_refused_220 : decode cL_refused 220 = .ok (.aload_n 0, 1) := by decide +kernel
theorem dL_refused_221 : decode cL_refused 221 = .ok (.iload_n 3, 1) := by decide +kernel
theorem dL_refused_222 : decode cL_refused 222 = .ok (.iconst 0, 1) := by decide +kernel
theorem dL_refused_223 : decode cL_refused 223 = .ok (.invokevirtual 70, 3) := by decide +kernel
theorem dL_refused_226 : decode cL_refused 226 = .ok (.iconst (-1), 1) := by decide +kernel
theorem dL_refused_227 : decode cL_refused 227 = .ok (.if_icmp .ne 113, 3) := by decide +kernel
theorem dL_refused_230 : decode cL_refused 230 = .ok (.aload_n 0, 1) := by decide +kernel
theorem dL_refused_231 : decode cL_refused 231 = .ok (.iconst (-1), 1) := by decide +kernel
theorem dL_refused_232 : decode cL_refused 232 = .ok (.invokevirtual 27, 3) := by decide +kernel
theorem dL_refused_235 : decode cL_refused 235 = .ok (.iconst (-1), 1) := by decide +kernel
theorem dL_refused_236 : decode cL_refused 236 = .ok (.if_icmp .ne 104, 3) := by decide +kernel
theorem dL_refused_239 : decode cL_refused 239 = .ok (.aload_n 0, 1) := by decide +kernel
theorem dL_refused_240 : decode cL_refused 240 = .ok (.bipush 6, 2) := by decide +kernel
theorem dL_refused_242 : decode cL_refused 242 = .ok (.iconst 0, 1) := by decide +kernel
theorem dL_refused_243 : decode cL_refused 243 = .ok (.iconst 0, 1) := by decide +kernel
theorem dL_refused_244 : decode cL_refused 244 = .ok (.invokevirtual 19, 3) := by decide +kernel
theorem dL_refused_247 : decode cL_refused 247 = .ok (.iconst (-1), 1) := by decide +kernel
theorem dL_refused_248 : decode cL_refused 248 = .ok (.if_icmp .ne 92, 3) := by decide +kernel
theorem dL_refused_251 : decode cL_refused 251 = .ok (.aload_n 0, 1) := by decide +kernel
theorem dL_refused_252 : decode cL_refused 252 = .ok (.iconst 0, 1) := by decide +kernel
theorem dL_refused_253 : decode cL_refused 253 = .ok (.bipush 40, 2) := by decide +kernel
theorem dL_refused_255 : decode cL_refused 255 = .ok (.iconst 0, 1) := by decide +kernel
theorem dL_refused_256 : decode cL_refused 256 = .ok (.invokevirtual 19, 3) := by decide +kernel
theorem dL_refused_259 : decode cL_refused 259 = .ok (.bipush (-99), 2) := by decide +kernel
theorem dL_refused_261 : decode cL_refused 261 = .ok (.if_icmp .ne 79, 3) := by decide +kernel
theorem dL_refused_264 : decode cL_refused 264 = .ok (.aload_n 0, 1) := by decide +kernel
theorem dL_refused_265 : decode cL_refused 265 = .ok (.iload 4, 2) := by decide +kernel
theorem dL_refused_267 : decode cL_refused 267 = .ok (.iconst 0, 1) := by decide +kernel
theorem dL_refused_268 : decode cL_refused 268 = .ok (.invokevirtual 23, 3) := by decide +kernel
theorem dL_refused_271 : decode cL_refused 271 = .ok (.iconst (-1), 1) := by decide +kernel
theorem dL_refused_272 : decode cL_refused 272 = .ok (.if_icmp .ne 68, 3) := by decide +kernel
theorem dL_refused_275 : decode cL_refused 275 = .ok (.aload_n 0, 1) := by decide +kernel
theorem dL_refused_276 : decode cL_refused 276 = .ok (.iconst 0, 1) := by decide +kernel
theorem dL_refused_277 : decode cL_refused 277 = .ok (.bipush 6, 2) := by decide +kernel
theorem dL_refused_279 : decode cL_refused 279 = .ok (.invokevirtual 73, 3) := by decide +kernel
theorem dL_refused_282 : decode cL_refused 282 = .ok (.iconst (-1), 1) := by decide +kernel
theorem dL_refused_283 : decode cL_refused 283 = .ok (.if_icmp .ne 57, 3) := by decide +kernel
theorem dL_refused_286 : decode cL_refused 286 = .ok (.aload_n 0, 1) := by decide +kernel
theorem dL_refused_287 : decode cL_refused 287 = .ok (.aload_n 0, 1) := by decide +kernel
theorem dL_refused_288 : decode cL_refused 288 = .ok (.iconst 4, 1) := by decide +kernel
theorem dL_refused_289 : decode cL_refused 289 = .ok (.invokevirtual 13, 3) := by decide +kernel
theorem dL_refused_292 : decode cL_refused 292 = .ok (.iconst 0, 1) := by decide +kernel
theorem dL_refused_293 : decode cL_refused 293 = .ok (.invokevirtual 76, 3) := by decide +kernel
theorem dL_refused_296 : decode cL_refused 296 = .ok (.bipush (-99), 2) := by decide +kernel
theorem dL_refused_298 : decode cL_refused 298 = .ok (.if_icmp .ne 42, 3) := by decide +kernel
theorem dL_refused_301 : decode cL_refused 301 = .ok (.aload_n 0, 1) := by decide +kernel
theorem dL_refused_302 : decode cL_refused 302 = .ok (.iconst 0, 1) := by decide +kernel
theorem dL_refused_303 : decode cL_refused 303 = .ok (.bipush 40, 2) := by decide +kernel
theorem dL_refused_305 : decode cL_refused 305 = .ok (.iconst 0, 1) := by decide +kernel
theorem dL_refused_306 : decode cL_refused 306 = .ok (.invokevirtual 79, 3) := by decide +kernel
theorem dL_refused_309 : decode cL_refused 309 = .ok (.iconst (-1), 1) := by decide +kernel
theorem dL_refused_310 : decode cL_refused 310 = .ok (.if_icmp .ne 30, 3) := by decide +kernel
theorem dL_refused_313 : decode cL_refused 313 = .ok (.aload_n 0, 1) := by decide +kernel
theorem dL_refused_314 : decode cL_refused 314 = .ok (.iload 4, 2) := by decide +kernel
theorem dL_refused_316 : decode cL_refused 316 = .ok (.iconst 0, 1) := by decide +kernel
theorem dL_refused_317 : decode cL_refused 317 = .ok (.invokevirtual 82, 3) := by decide +kernel
theorem dL_refused_320 : decode cL_refused 320 = .ok (.iconst (-1), 1) := by decide +kernel
theorem dL_refused_321 : decode cL_refused 321 = .ok (.if_icmp .ne 19, 3) := by decide +kernel
theorem dL_refused_324 : decode cL_refused 324 = .ok (.aload_n 0, 1) := by decide +kernel
theorem dL_refused_325 : decode cL_refused 325 = .ok (.iload_n 3, 1) := by decide +kernel
theorem dL_refused_326 : decode cL_refused 326 = .ok (.iconst (-1), 1) := by decide +kernel
theorem dL_refused_327 : decode cL_refused 327 = .ok (.iconst (-1), 1) := by decide +kernel
theorem dL_refused_328 : decode cL_refused 328 = .ok (.iconst (-1), 1) := by decide +kernel
theorem dL_refused_329 : decode cL_refused 329 = .ok (.invokevirtual 85, 3) := by decide +kernel
theorem dL_refused_332 : decode cL_refused 332 = .ok (.iconst (-1), 1) := by decide +kernel
theorem dL_refused_333 : decode cL_refused 333 = .ok (.if_icmp .ne 7, 3) := by decide +kernel
theorem dL_refused_336 : decode cL_refused 336 = .ok (.iconst 1, 1) := by decide +kernel
theorem dL_refused_337 : decode cL_refused 337 = .ok (.goto 4, 3) := by decide +kernel
theorem dL_refused_340 : decode cL_refused 340 = .ok (.iconst 0, 1) := by decide +kernel
theorem dL_refused_341 : decode cL_refused 341 = .ok (.istore 5, 2) := by decide +kernel
theorem dL_refused_343 : decode cL_refused 343 = .ok (.iload 5, 2) := by decide +kernel
theorem dL_refused_345 : decode cL_refused 345 = .ok (.ifCond .eq 16, 3) := by decide +kernel
theorem dL_refused_348 : decode cL_refused 348 = .ok (.aload_n 0, 1) := by decide +kernel
theorem dL_refused_349 : decode cL_refused 349 = .ok (.invokestatic 30, 3) := by decide +kernel
theorem dL_refused_352 : decode cL_refused 352 = .ok (.lload_n 1, 1) := by decide +kernel
theorem dL_refused_353 : decode cL_refused 353 = .ok (.lcmp, 1) := by decide +kernel
theorem dL_refused_354 : decode cL_refused 354 = .ok (.ifCond .ne 7, 3) := by decide +kernel
theorem dL_refused_357 : decode cL_refused 357 = .ok (.iconst 1, 1) := by decide +kernel
theorem dL_refused_358 : decode cL_refused 358 = .ok (.goto 4, 3) := by decide +kernel
theorem dL_refused_361 : decode cL_refused 361 = .ok (.iconst 0, 1) := by decide +kernel
theorem dL_refused_362 : decode cL_refused 362 = .ok (.ireturn, 1) := by decide +kernel
theorem dL_size_0 : decode cL_size 0 = .ok (.iconst 0, 1) := by decide +kernel
theorem dL_size_1 : decode cL_size 1 = .ok (.istore_n 2, 1) := by decide +kernel
theorem dL_size_2 : decode cL_size 2 = .ok (.iload_n 2, 1) := by decide +kernel
theorem dL_size_3 : decode cL_size 3 = .ok (.bipush 41, 2) := by decide +kernel
theorem dL_size_5 : decode cL_size 5 = .ok (.if_icmp .ge 19, 3) := by decide +kernel
theorem dL_size_8 : decode cL_size 8 = .ok (.aload_n 0, 1) := by decide +kernel
theorem dL_size_9 : decode cL_size 9 = .ok (.iload_n 1, 1) := by decide +kernel
theorem dL_size_10 : decode cL_size 10 = .ok (.iload_n 2, 1) := by decide +kernel
theorem dL_size_11 : decode cL_size 11 = .ok (.iconst 0, 1) := by decide +kernel
theorem dL_size_12 : decode cL_size 12 = .ok (.invokevirtual 19, 3) := by decide +kernel
theorem dL_size_15 : decode cL_size 15 = .ok (.ifCond .lt 9, 3) := by decide +kernel
theorem dL_size_18 : decode cL_size 18 = .ok (.iinc 2 1, 3) := by decide +kernel
theorem dL_size_21 : decode cL_size 21 = .ok (.goto (-19), 3) := by decide +kernel
theorem dL_size_24 : decode cL_size 24 = .ok (.iload_n 2, 1) := by decide +kernel
theorem dL_size_25 : decode cL_size 25 = .ok (.ireturn, 1) := by decide +kernel
theorem dL_marksIn_0 : decode cL_marksIn 0 = .ok (.aload_n 0, 1) := by decide +kernel
theorem dL_marksIn_1 : decode cL_marksIn 1 = .ok (.iload_n 1, 1) := by decide +kernel
theorem dL_marksIn_2 : decode cL_marksIn 2 = .ok (.invokestatic 88, 3) := by decide +kernel
theorem dL_marksIn_5 : decode cL_marksIn 5 = .ok (.istore_n 3, 1) := by decide +kernel
theorem dL_marksIn_6 : decode cL_marksIn 6 = .ok (.iconst 0, 1) := by decide +kernel
theorem dL_marksIn_7 : decode cL_marksIn 7 = .ok (.istore 4, 2) := by decide +kernel
theorem dL_marksIn_9 : decode cL_marksIn 9 = .ok (.iload_n 2, 1) := by decide +kernel
theorem dL_marksIn_10 : decode cL_marksIn 10 = .ok (.istore 5, 2) := by decide +kernel
theorem dL_marksIn_12 : decode cL_marksIn 12 = .ok (.iconst 0, 1) := by decide +kernel
theorem dL_marksIn_13 : decode cL_marksIn 13 = .ok (.istore 6, 2) := by decide +kernel
theorem dL_marksIn_15 : decode cL_marksIn 15 = .ok (.iload 4, 2) := by decide +kernel
theorem dL_marksIn_17 : decode cL_marksIn 17 = .ok (.iload_n 3, 1) := by decide +kernel
theorem dL_marksIn_18 : decode cL_marksIn 18 = .ok (.if_icmp .ge 463, 3) := by decide +kernel
theorem dL_marksIn_21 : decode cL_marksIn 21 = .ok (.aload_n 0, 1) := by decide +kernel
theorem dL_marksIn_22 : decode cL_marksIn 22 = .ok (.iload_n 1, 1) := by decide +kernel
theorem dL_marksIn_23 : decode cL_marksIn 23 = .ok (.iload 4, 2) := by decide +kernel
theorem dL_marksIn_25 : decode cL_marksIn 25 = .ok (.iconst 1, 1) := by decide +kernel
theorem dL_marksIn_26 : decode cL_marksIn 26 = .ok (.invokevirtual 19, 3) := by decide +kernel
theorem dL_marksIn_29 : decode cL_marksIn 29 = .ok (.istore 7, 2) := by decide +kernel
theorem dL_marksIn_31 : decode cL_marksIn 31 = .ok (.iload 7, 2) := by decide +kernel
theorem dL_marksIn_33 : decode cL_marksIn 33 = .ok (.bipush (-99), 2) := by decide +kernel
theorem dL_marksIn_35 : decode cL_marksIn 35 = .ok (.if_icmp .ne 7, 3) := by decide +kernel
theorem dL_marksIn_38 : decode cL_marksIn 38 = .ok (.iconst 1, 1) := by decide +kernel
theorem dL_marksIn_39 : decode cL_marksIn 39 = .ok (.goto 10, 3) := by decide +kernel
theorem dL_marksIn_42 : decode cL_marksIn 42 = .ok (.aload_n 0, 1) := by decide +kernel
theorem dL_marksIn_43 : decode cL_marksIn 43 = .ok (.iload 7, 2) := by decide +kernel
theorem dL_marksIn_45 : decode cL_marksIn 45 = .ok (.iconst 0, 1) := by decide +kernel
theorem dL_marksIn_46 : decode cL_marksIn 46 = .ok (.invokevirtual 23, 3) := by decide +kernel
theorem dL_marksIn_49 : decode cL_marksIn 49 = .ok (.istore 8, 2) := by decide +kernel
theorem dL_marksIn_51 : decode cL_marksIn 51 = .ok (.iload 7, 2) := by decide +kernel
theorem dL_marksIn_53 : decode cL_marksIn 53 = .ok (.bipush (-99), 2) := by decide +kernel
theorem dL_marksIn_55 : decode cL_marksIn 55 = .ok (.if_icmp .eq 17, 3) := by decide +kernel
theorem dL_marksIn_58 : decode cL_marksIn 58 = .ok (.iload 6, 2) := by decide +kernel
theorem dL_marksIn_60 : decode cL_marksIn 60 = .ok (.iload 7, 2) := by decide +kernel
theorem dL_marksIn_62 : decode cL_marksIn 62 = .ok (.ishr, 1) := by decide +kernel
theorem dL_marksIn_63 : decode cL_marksIn 63 = .ok (.iconst 1, 1) := by decide +kernel
theorem dL_marksIn_64 : decode cL_marksIn 64 = .ok (.iand, 1) := by decide +kernel
theorem dL_marksIn_65 : decode cL_marksIn 65 = .ok (.ifCond .ne 7, 3) := by decide +kernel
theorem dL_marksIn_68 : decode cL_marksIn 68 = .ok (.iconst 1, 1) := by decide +kernel
theorem dL_marksIn_69 : decode cL_marksIn 69 = .ok (.goto 4, 3) := by decide +kernel
theorem dL_marksIn_72 : decode cL_marksIn 72 = .ok (.iconst 0, 1) := by decide +kernel
theorem dL_marksIn_73 : decode cL_marksIn 73 = .ok (.istore 9, 2) := by decide +kernel
theorem dL_marksIn_75 : decode cL_marksIn 75 = .ok (.iload 9, 2) := by decide +kernel
theorem dL_marksIn_77 : decode cL_marksIn 77 = .ok (.ifCond .eq 17, 3) := by decide +kernel
theorem dL_marksIn_80 : decode cL_marksIn 80 = .ok (.aload_n 0, 1) := by decide +kernel
theorem dL_marksIn_81 : decode cL_marksIn 81 = .ok (.iload 7, 2) := by decide +kernel
theorem dL_marksIn_83 : decode cL_marksIn 83 = .ok (.iconst 5, 1) := by decide +kernel
theorem dL_marksIn_84 : decode cL_marksIn 84 = .ok (.invokevirtual 23, 3) := by decide +kernel
theorem dL_marksIn_87 : decode cL_marksIn 87 = .ok (.ifCond .ne 7, 3) := by decide +kernel
theorem dL_marksIn_90 : decode cL_marksIn 90 = .ok (.iconst 1, 1) := by decide +kernel
theorem dL_marksIn_91 : decode cL_marksIn 91 = .ok (.goto 4, 3) := by decide +kernel
theorem dL_marksIn_94 : decode cL_marksIn 94 = .ok (.iconst 0, 1) := by decide +kernel
theorem dL_marksIn_95 : decode cL_marksIn 95 = .ok (.istore 10, 2) := by decide +kernel
theorem dL_marksIn_97 : decode cL_marksIn 97 = .ok (.iload 7, 2) := by decide +kernel
theorem dL_marksIn_99 : decode cL_marksIn 99 = .ok (.bipush (-99), 2) := by decide +kernel
theorem dL_marksIn_101 : decode cL_marksIn 101 = .ok (.if_icmp .ne 35, 3) := by decide +kernel
theorem dL_marksIn_104 : decode cL_marksIn 104 = .ok (.aload_n 0, 1) := by decide +kernel
theorem dL_marksIn_105 : decode cL_marksIn 105 = .ok (.iload_n 1, 1) := by decide +kernel
theorem dL_marksIn_106 : decode cL_marksIn 106 = .ok (.iload 4, 2) := by decide +kernel
theorem dL_marksIn_108 : decode cL_marksIn 108 = .ok (.iconst 2, 1) := by decide +kernel
theorem dL_marksIn_109 : decode cL_marksIn 109 = .ok (.invokevirtual 19, 3) := by decide +kernel
theorem dL_marksIn_112 : decode cL_marksIn 112 = .ok (.bipush (-99), 2) := by decide +kernel
theorem dL_marksIn_114 : decode cL_marksIn 114 = .ok (.if_icmp .ne 18, 3) := by decide +kernel
theorem dL_marksIn_117 : decode cL_marksIn 117 = .ok (.aload_n 0, 1) := by decide +kernel
theorem dL_marksIn_118 : decode cL_marksIn 118 = .ok (.iload_n 1, 1) := by decide +kernel
theorem dL_marksIn_119 : decode cL_marksIn 119 = .ok (.iload 4, 2) := by decide +kernel
theorem dL_marksIn_121 : decode cL_marksIn 121 = .ok (.iconst 3, 1) := by decide +kernel
theorem dL_marksIn_122 : decode cL_marksIn 122 = .ok (.invokevirtual 19, 3) := by decide +kernel
theorem dL_marksIn_125 : decode cL_marksIn 125 = .ok (.ifCond .ne 7, 3) := by decide +kernel
theorem dL_marksIn_128 : decode cL_marksIn 128 = .ok (.iconst 1, 1) := by decide +kernel
theorem dL_marksIn_129 : decode cL_marksIn 129 = .ok (.goto 60, 3) := by decide +kernel
theorem dL_marksIn_132 : decode cL_marksIn 132 = .ok (.iconst 0, 1) := by decide +kernel
theorem dL_marksIn_133 : decode cL_marksIn 133 = .ok (.goto 56, 3) := by decide +kernel
theorem dL_marksIn_136 : decode cL_marksIn 136 = .ok (.iload 7, 2) := by decide +kernel
theorem dL_marksIn_138 : decode cL_marksIn 138 = .ok (.ifCond .lt 50, 3) := by decide +kernel
theorem dL_marksIn_141 : decode cL_marksIn 141 = .ok (.iload 4, 2) := by decide +kernel
theorem dL_marksIn_143 : decode cL_marksIn 143 = .ok (.iload 8, 2) := by decide +kernel
theorem dL_marksIn_145 : decode cL_marksIn 145 = .ok (.iadd, 1) := by decide +kernel
theorem dL_marksIn_146 : decode cL_marksIn 146 = .ok (.iload_n 3, 1) := by decide +kernel
theorem dL_marksIn_147 : decode cL_marksIn 147 = .ok (.if_icmp .gt 41, 3) := by decide +kernel
theorem dL_marksIn_150 : decode cL_marksIn 150 = .ok (.aload_n 0, 1) := by decide +kernel
theorem dL_marksIn_151 : decode cL_marksIn 151 = .ok (.iload 7, 2) := by decide +kernel
theorem dL_marksIn_153 : decode cL_marksIn 153 = .ok (.iload_n 1, 1) := by decide +kernel
theorem dL_marksIn_154 : decode cL_marksIn 154 = .ok (.invokevirtual 73, 3) := by decide +kernel
theorem dL_marksIn_157 : decode cL_marksIn 157 = .ok (.iload 4, 2) := by decide +kernel
theorem dL_marksIn_159 : decode cL_marksIn 159 = .ok (.if_icmp .gt 29, 3) := by decide +kernel
theorem dL_marksIn_162 : decode cL_marksIn 162 = .ok (.aload_n 0, 1) := by decide +kernel
theorem dL_marksIn_163 : decode cL_marksIn 163 = .ok (.iload 7, 2) := by decide +kernel
theorem dL_marksIn_165 : decode cL_marksIn 165 = .ok (.iload_n 1, 1) := by decide +kernel
theorem dL_marksIn_166 : decode cL_marksIn 166 = .ok (.invokevirtual 73, 3) := by decide +kernel
theorem dL_marksIn_169 : decode cL_marksIn 169 = .ok (.iload 4, 2) := by decide +kernel
theorem dL_marksIn_171 : decode cL_marksIn 171 = .ok (.if_icmp .ne 7, 3) := by decide +kernel
theorem dL_marksIn_174 : decode cL_marksIn 174 = .ok (.iconst 1, 1) := by decide +kernel
theorem dL_marksIn_175 : decode cL_marksIn 175 = .ok (.goto 4, 3) := by decide +kernel
theorem dL_marksIn_178 : decode cL_marksIn 178 = .ok (.iconst 0, 1) := by decide +kernel
theorem dL_marksIn_179 : decode cL_marksIn 179 = .ok (.iload 9, 2) := by decide +kernel
theorem dL_marksIn_181 : decode cL_marksIn 181 = .ok (.if_icmp .ne 7, 3) := by decide +kernel
theorem dL_marksIn_184 : decode cL_marksIn 184 = .ok (.iconst 1, 1) := by decide +kernel
theorem dL_marksIn_185 : decode cL_marksIn 185 = .ok (.goto 4, 3) := by decide +kernel
theorem dL_marksIn_188 : decode cL_marksIn 188 = .ok (.iconst 0, 1) := by decide +kernel
theorem dL_marksIn_189 : decode cL_marksIn 189 = .ok (.istore 11, 2) := by decide +kernel
theorem dL_marksIn_191 : decode cL_marksIn 191 = .ok (.iload 11, 2) := by decide +kernel
theorem dL_marksIn_193 : decode cL_marksIn 193 = .ok (.ifCond .eq 80, 3) := by decide +kernel
theorem dL_marksIn_196 : decode cL_marksIn 196 = .ok (.aload_n 0, 1) := by decide +kernel
theorem dL_marksIn_197 : decode cL_marksIn 197 = .ok (.iload_n 1, 1) := by decide +kernel
theorem dL_marksIn_198 : decode cL_marksIn 198 = .ok (.iload 4, 2) := by decide +kernel
theorem dL_marksIn_200 : decode cL_marksIn 200 = .ok (.iconst 3, 1) := by decide +kernel
theorem dL_marksIn_201 : decode cL_marksIn 201 = .ok (.invokevirtual 19, 3) := by decide +kernel
theorem dL_marksIn_204 : decode cL_marksIn 204 = .ok (.iload 10, 2) := by decide +kernel
theorem dL_marksIn_206 : decode cL_marksIn 206 = .ok (.ifCond .eq 7, 3) := by decide +kernel
theorem dL_marksIn_209 : decode cL_marksIn 209 = .ok (.iconst 1, 1) := by decide +kernel
theorem dL_marksIn_210 : decode cL_marksIn 210 = .ok (.goto 4, 3) := by decide +kernel
theorem dL_marksIn_213 : decode cL_marksIn 213 = .ok (.iconst 0, 1) := by decide +kernel
theorem dL_marksIn_214 : decode cL_marksIn 214 = .ok (.if_icmp .ne 59, 3) := by decide +kernel
theorem dL_marksIn_217 : decode cL_marksIn 217 = .ok (.iload 10, 2) := by decide +kernel
theorem dL_marksIn_219 : decode cL_marksIn 219 = .ok (.ifCond .eq 50, 3) := by decide +kernel
theorem dL_marksIn_222 : decode cL_marksIn 222 = .ok (.aload_n 0, 1) := by decide +kernel
theorem dL_marksIn_223 : decode cL_marksIn 223 = .ok (.iload 5, 2) := by decide +kernel
theorem dL_marksIn_225 : decode cL_marksIn 225 = .ok (.iconst 0, 1) := by decide +kernel
theorem dL_marksIn_226 : decode cL_marksIn 226 = .ok (.invokevirtual 76, 3) := by decide +kernel
theorem dL_marksIn_229 : decode cL_marksIn 229 = .ok (.iload_n 1, 1) := by decide +kernel
theorem dL_marksIn_230 : decode cL_marksIn 230 = .ok (.if_icmp .ne 43, 3) := by decide +kernel
theorem dL_marksIn_233 : decode cL_marksIn 233 = .ok (.aload_n 0, 1) := by decide +kernel
theorem dL_marksIn_234 : decode cL_marksIn 234 = .ok (.iload 5, 2) := by decide +kernel
theorem dL_marksIn_236 : decode cL_marksIn 236 = .ok (.iconst 1, 1) := by decide +kernel
theorem dL_marksIn_237 : decode cL_marksIn 237 = .ok (.invokevirtual 76, 3) := by decide +kernel
theorem dL_marksIn_240 : decode cL_marksIn 240 = .ok (.iload 4, 2) := by decide +kernel
theorem dL_marksIn_242 : decode cL_marksIn 242 = .ok (.if_icmp .ne 31, 3) := by decide +kernel
theorem dL_marksIn_245 : decode cL_marksIn 245 = .ok (.aload_n 0, 1) := by decide +kernel
theorem dL_marksIn_246 : decode cL_marksIn 246 = .ok (.iload 5, 2) := by decide +kernel
theorem dL_marksIn_248 : decode cL_marksIn 248 = .ok (.iconst 2, 1) := by decide +kernel
theorem dL_marksIn_249 : decode cL_marksIn 249 = .ok (.invokevirtual 76, 3) := by decide +kernel
theorem dL_marksIn_252 : decode cL_marksIn 252 = .ok (.iload 7, 2) := by decide +kernel
theorem dL_marksIn_254 : decode cL_marksIn 254 = .ok (.if_icmp .ne 19, 3) := by decide +kernel
theorem dL_marksIn_257 : decode cL_marksIn 257 = .ok (.aload_n 0, 1) := by decide +kernel
theorem dL_marksIn_258 : decode cL_marksIn 258 = .ok (.iload_n 1, 1) := by decide +kernel
theorem dL_marksIn_259 : decode cL_marksIn 259 = .ok (.iload 4, 2) := by decide +kernel
theorem dL_marksIn_261 : decode cL_marksIn 261 = .ok (.iload 7, 2) := by decide +kernel
theorem dL_marksIn_263 : decode cL_marksIn 263 = .ok (.invokevirtual 79, 3) := by decide +kernel
theorem dL_marksIn_266 : decode cL_marksIn 266 = .ok (.ifCond .ne 7, 3) := by decide +kernel
theorem dL_marksIn_269 : decode cL_marksIn 269 = .ok (.iconst 1, 1) := by decide +kernel
theorem dL_marksIn_270 : decode cL_marksIn 270 = .ok (.goto 4, 3) := by decide +kernel
theorem dL_marksIn_273 : decode cL_marksIn 273 = .ok (.iconst 0, 1) := by decide +kernel
theorem dL_marksIn_274 : decode cL_marksIn 274 = .ok (.istore 11, 2) := by decide +kernel
theorem dL_marksIn_276 : decode cL_marksIn 276 = .ok (.iconst 0, 1) := by decide +kernel
theorem dL_marksIn_277 : decode cL_marksIn 277 = .ok (.istore 12, 2) := by decide +kernel
theorem dL_marksIn_279 : decode cL_marksIn 279 = .ok (.iload 12, 2) := by decide +kernel
theorem dL_marksIn_281 : decode cL_marksIn 281 = .ok (.iload 8, 2) := by decide +kernel
theorem dL_marksIn_283 : decode cL_marksIn 283 = .ok (.if_icmp .ge 148, 3) := by decide +kernel
theorem dL_marksIn_286 : decode cL_marksIn 286 = .ok (.iload 7, 2) := by decide +kernel
theorem dL_marksIn_288 : decode cL_marksIn 288 = .ok (.bipush (-99), 2) := by decide +kernel
theorem dL_marksIn_290 : decode cL_marksIn 290 = .ok (.if_icmp .eq 141, 3) := by decide +kernel
theorem dL_marksIn_293 : decode cL_marksIn 293 = .ok (.iload 11, 2) := by decide +kernel
theorem dL_marksIn_295 : decode cL_marksIn 295 = .ok (.ifCond .eq 136, 3) := by decide +kernel
theorem dL_marksIn_298 : decode cL_marksIn 298 = .ok (.aload_n 0, 1) := by decide +kernel
theorem dL_marksIn_299 : decode cL_marksIn 299 = .ok (.iload_n 1, 1) := by decide +kernel
theorem dL_marksIn_300 : decode cL_marksIn 300 = .ok (.iload 4, 2) := by decide +kernel
theorem dL_marksIn_302 : decode cL_marksIn 302 = .ok (.iload 12, 2) := by decide +kernel
theorem dL_marksIn_304 : decode cL_marksIn 304 = .ok (.iadd, 1) := by decide +kernel
theorem dL_marksIn_305 : decode cL_marksIn 305 = .ok (.iconst 1, 1) := by decide +kernel
theorem dL_marksIn_306 : decode cL_marksIn 306 = .ok (.invokevirtual 19, 3) := by decide +kernel
theorem dL_marksIn_309 : decode cL_marksIn 309 = .ok (.iload 7, 2) := by decide +kernel
theorem dL_marksIn_311 : decode cL_marksIn 311 = .ok (.if_icmp .ne 111, 3) := by decide +kernel
theorem dL_marksIn_314 : decode cL_marksIn 314 = .ok (.aload_n 0, 1) := by decide +kernel
theorem dL_marksIn_315 : decode cL_marksIn 315 = .ok (.iload_n 1, 1) := by decide +kernel
theorem dL_marksIn_316 : decode cL_marksIn 316 = .ok (.iload 4, 2) := by decide +kernel
theorem dL_marksIn_318 : decode cL_marksIn 318 = .ok (.iload 12, 2) := by decide +kernel
theorem dL_marksIn_320 : decode cL_marksIn 320 = .ok (.iadd, 1) := by decide +kernel
theorem dL_marksIn_321 : decode cL_marksIn 321 = .ok (.iconst 2, 1) := by decide +kernel
theorem dL_marksIn_322 : decode cL_marksIn 322 = .ok (.invokevirtual 19, 3) := by decide +kernel
theorem dL_marksIn_325 : decode cL_marksIn 325 = .ok (.iload 12, 2) := by decide +kernel
theorem dL_marksIn_327 : decode cL_marksIn 327 = .ok (.if_icmp .ne 95, 3) := by decide +kernel
theorem dL_marksIn_330 : decode cL_marksIn 330 = .ok (.iload 12, 2) := by decide +kernel
theorem dL_marksIn_332 : decode cL_marksIn 332 = .ok (.ifCond .eq 17, 3) := by decide +kernel
theorem dL_marksIn_335 : decode cL_marksIn 335 = .ok (.aload_n 0, 1) := by decide +kernel
theorem dL_marksIn_336 : decode cL_marksIn 336 = .ok (.iload_n 1, 1) := by decide +kernel
theorem dL_marksIn_337 : decode cL_marksIn 337 = .ok (.iload 4, 2) := by decide +kernel
theorem dL_marksIn_339 : decode cL_marksIn 339 = .ok (.iload 12, 2) := by decide +kernel
theorem dL_marksIn_341 : decode cL_marksIn 341 = .ok (.iadd, 1) := by decide +kernel
theorem dL_marksIn_342 : decode cL_marksIn 342 = .ok (.iconst 3, 1) := by decide +kernel
theorem dL_marksIn_343 : decode cL_marksIn 343 = .ok (.invokevirtual 19, 3) := by decide +kernel
theorem dL_marksIn_346 : decode cL_marksIn 346 = .ok (.ifCond .ne 76, 3) := by decide +kernel
theorem dL_marksIn_349 : decode cL_marksIn 349 = .ok (.aload_n 0, 1) := by decide +kernel
theorem dL_marksIn_350 : decode cL_marksIn 350 = .ok (.aload_n 0, 1) := by decide +kernel
theorem dL_marksIn_351 : decode cL_marksIn 351 = .ok (.iload_n 1, 1) := by decide +kernel
theorem dL_marksIn_352 : decode cL_marksIn 352 = .ok (.iload 4, 2) := by decide +kernel
theorem dL_marksIn_354 : decode cL_marksIn 354 = .ok (.iload 12, 2) := by decide +kernel
theorem dL_marksIn_356 : decode cL_marksIn 356 = .ok (.iadd, 1) := by decide +kernel
theorem dL_marksIn_357 : decode cL_marksIn 357 = .ok (.iconst 0, 1) := by decide +kernel
theorem dL_marksIn_358 : decode cL_marksIn 358 = .ok (.invokevirtual 19, 3) := by decide +kernel
theorem dL_marksIn_361 : decode cL_marksIn 361 = .ok (.invokevirtual 27, 3) := by decide +kernel
theorem dL_marksIn_364 : decode cL_marksIn 364 = .ok (.aload_n 0, 1) := by decide +kernel
theorem dL_marksIn_365 : decode cL_marksIn 365 = .ok (.aload_n 0, 1) := by decide +kernel
theorem dL_marksIn_366 : decode cL_marksIn 366 = .ok (.iload 7, 2) := by decide +kernel
theorem dL_marksIn_368 : decode cL_marksIn 368 = .ok (.iconst 1, 1) := by decide +kernel
theorem dL_marksIn_369 : decode cL_marksIn 369 = .ok (.iload 12, 2) := by decide +kernel
theorem dL_marksIn_371 : decode cL_marksIn 371 = .ok (.iadd, 1) := by decide +kernel
theorem dL_marksIn_372 : decode cL_marksIn 372 = .ok (.invokevirtual 23, 3) := by decide +kernel
theorem dL_marksIn_375 : decode cL_marksIn 375 = .ok (.invokevirtual 27, 3) := by decide +kernel
theorem dL_marksIn_378 : decode cL_marksIn 378 = .ok (.if_icmp .ne 44, 3) := by decide +kernel
theorem dL_marksIn_381 : decode cL_marksIn 381 = .ok (.iload 12, 2) := by decide +kernel
theorem dL_marksIn_383 : decode cL_marksIn 383 = .ok (.ifCond .eq 35, 3) := by decide +kernel
theorem dL_marksIn_386 : decode cL_marksIn 386 = .ok (.aload_n 0, 1) := by decide +kernel
theorem dL_marksIn_387 : decode cL_marksIn 387 = .ok (.iload_n 1, 1) := by decide +kernel
theorem dL_marksIn_388 : decode cL_marksIn 388 = .ok (.iload 4, 2) := by decide +kernel
theorem dL_marksIn_390 : decode cL_marksIn 390 = .ok (.iload 12, 2) := by decide +kernel
theorem dL_marksIn_392 : decode cL_marksIn 392 = .ok (.iadd, 1) := by decide +kernel
theorem dL_marksIn_393 : decode cL_marksIn 393 = .ok (.iload 7, 2) := by decide +kernel
theorem dL_marksIn_395 : decode cL_marksIn 395 = .ok (.invokevirtual 79, 3) := by decide +kernel
theorem dL_marksIn_398 : decode cL_marksIn 398 = .ok (.iconst 1, 1) := by decide +kernel
theorem dL_marksIn_399 : decode cL_marksIn 399 = .ok (.if_icmp .eq 19, 3) := by decide +kernel
theorem dL_marksIn_402 : decode cL_marksIn 402 = .ok (.aload_n 0, 1) := by decide +kernel
theorem dL_marksIn_403 : decode cL_marksIn 403 = .ok (.iload_n 1, 1) := by decide +kernel
theorem dL_marksIn_404 : decode cL_marksIn 404 = .ok (.iload 4, 2) := by decide +kernel
theorem dL_marksIn_406 : decode cL_marksIn 406 = .ok (.iload 12, 2) := by decide +kernel
theorem dL_marksIn_408 : decode cL_marksIn 408 = .ok (.iadd, 1) := by decide +kernel
theorem dL_marksIn_409 : decode cL_marksIn 409 = .ok (.iload 7, 2) := by decide +kernel
theorem dL_marksIn_411 : decode cL_marksIn 411 = .ok (.invokevirtual 79, 3) := by decide +kernel
theorem dL_marksIn_414 : decode cL_marksIn 414 = .ok (.iconst 3, 1) := by decide +kernel
theorem dL_marksIn_415 : decode cL_marksIn 415 = .ok (.if_icmp .ne 7, 3) := by decide +kernel
theorem dL_marksIn_418 : decode cL_marksIn 418 = .ok (.iconst 1, 1) := by decide +kernel
theorem dL_marksIn_419 : decode cL_marksIn 419 = .ok (.goto 4, 3) := by decide +kernel
theorem dL_marksIn_422 : decode cL_marksIn 422 = .ok (.iconst 0, 1) := by decide +kernel
theorem dL_marksIn_423 : decode cL_marksIn 423 = .ok (.istore 11, 2) := by decide +kernel
theorem dL_marksIn_425 : decode cL_marksIn 425 = .ok (.iinc 12 1, 3) := by decide +kernel
theorem dL_marksIn_428 : decode cL_marksIn 428 = .ok (.goto (-149), 3) := by decide +kernel
theorem dL_marksIn_431 : decode cL_marksIn 431 = .ok (.iload 11, 2) := by decide +kernel
theorem dL_marksIn_433 : decode cL_marksIn 433 = .ok (.ifCond .ne 5, 3) := by decide +kernel
theorem dL_marksIn_436 : decode cL_marksIn 436 = .ok (.iconst (-1), 1) := by decide +kernel
theorem dL_marksIn_437 : decode cL_marksIn 437 = .ok (.ireturn, 1) := by decide +kernel
theorem dL_marksIn_438 : decode cL_marksIn 438 = .ok (.iload 6, 2) := by decide +kernel
theorem dL_marksIn_440 : decode cL_marksIn 440 = .ok (.iload 9, 2) := by decide +kernel
theorem dL_marksIn_442 : decode cL_marksIn 442 = .ok (.ifCond .eq 10, 3) := by decide +kernel
theorem dL_marksIn_445 : decode cL_marksIn 445 = .ok (.iconst 1, 1) := by decide +kernel
theorem dL_marksIn_446 : decode cL_marksIn 446 = .ok (.iload 7, 2) := by decide +kernel
theorem dL_marksIn_448 : decode cL_marksIn 448 = .ok (.ishl, 1) := by decide +kernel
theorem dL_marksIn_449 : decode cL_marksIn 449 = .ok (.goto 4, 3) := by decide +kernel
theorem dL_marksIn_452 : decode cL_marksIn 452 = .ok (.iconst 0, 1) := by decide +kernel
theorem dL_marksIn_453 : decode cL_marksIn 453 = .ok (.ior, 1) := by decide +kernel
theorem dL_marksIn_454 : decode cL_marksIn 454 = .ok (.istore 6, 2) := by decide +kernel
theorem dL_marksIn_456 : decode cL_marksIn 456 = .ok (.iload 5, 2) := by decide +kernel
theorem dL_marksIn_458 : decode cL_marksIn 458 = .ok (.iload 10, 2) := by decide +kernel
theorem dL_marksIn_460 : decode cL_marksIn 460 = .ok (.ifCond .eq 7, 3) := by decide +kernel
theorem dL_marksIn_463 : decode cL_marksIn 463 = .ok (.iconst 1, 1) := by decide +kernel
theorem dL_marksIn_464 : decode cL_marksIn 464 = .ok (.goto 4, 3) := by decide +kernel
theorem dL_marksIn_467 : decode cL_marksIn 467 = .ok (.iconst 0, 1) := by decide +kernel
theorem dL_marksIn_468 : decode cL_marksIn 468 = .ok (.iadd, 1) := by decide +kernel
theorem dL_marksIn_469 : decode cL_marksIn 469 = .ok (.istore 5, 2) := by decide +kernel
theorem dL_marksIn_471 : decode cL_marksIn 471 = .ok (.iload 4, 2) := by decide +kernel
theorem dL_marksIn_473 : decode cL_marksIn 473 = .ok (.iload 8, 2) := by decide +kernel
theorem dL_marksIn_475 : decode cL_marksIn 475 = .ok (.iadd, 1) := by decide +kernel
theorem dL_marksIn_476 : decode cL_marksIn 476 = .ok (.istore 4, 2) := by decide +kernel
theorem dL_marksIn_478 : decode cL_marksIn 478 = .ok (.goto (-463), 3) := by decide +kernel
theorem dL_marksIn_481 : decode cL_marksIn 481 = .ok (.iload 5, 2) := by decide +kernel
theorem dL_marksIn_483 : decode cL_marksIn 483 = .ok (.iload_n 2, 1) := by decide +kernel
theorem dL_marksIn_484 : decode cL_marksIn 484 = .ok (.isub, 1) := by decide +kernel
theorem dL_marksIn_485 : decode cL_marksIn 485 = .ok (.ireturn, 1) := by decide +kernel
theorem dL_areReadings_0 : decode cL_areReadings 0 = .ok (.iconst 0, 1) := by decide +kernel
theorem dL_areReadings_1 : decode cL_areReadings 1 = .ok (.istore_n 1, 1) := by decide +kernel
theorem dL_areReadings_2 : decode cL_areReadings 2 = .ok (.iconst 0, 1) := by decide +kernel
theorem dL_areReadings_3 : decode cL_areReadings 3 = .ok (.istore_n 2, 1) := by decide +kernel
theorem dL_areReadings_4 : decode cL_areReadings 4 = .ok (.iconst 0, 1) := by decide +kernel
theorem dL_areReadings_5 : decode cL_areReadings 5 = .ok (.istore_n 3, 1) := by decide +kernel
theorem dL_areReadings_6 : decode cL_areReadings 6 = .ok (.iconst 0, 1) := by decide +kernel
theorem dL_areReadings_7 : decode cL_areReadings 7 = .ok (.istore 4, 2) := by decide +kernel
theorem dL_areReadings_9 : decode cL_areReadings 9 = .ok (.iconst 0, 1) := by decide +kernel
theorem dL_areReadings_10 : decode cL_areReadings 10 = .ok (.istore 5, 2) := by decide +kernel
theorem dL_areReadings_12 : decode cL_areReadings 12 = .ok (.iconst 1, 1) := by decide +kernel
theorem dL_areReadings_13 : decode cL_areReadings 13 = .ok (.istore 6, 2) := by decide +kernel
theorem dL_areReadings_15 : decode cL_areReadings 15 = .ok (.iconst 0, 1) := by decide +kernel
theorem dL_areReadings_16 : decode cL_areReadings 16 = .ok (.istore 7, 2) := by decide +kernel
theorem dL_areReadings_18 : decode cL_areReadings 18 = .ok (.iload 7, 2) := by decide +kernel
theorem dL_areReadings_20 : decode cL_areReadings 20 = .ok (.bipush 6, 2) := by decide +kernel
theorem dL_areReadings_22 : decode cL_areReadings 22 = .ok (.if_icmp .ge 49, 3) := by decide +kernel
theorem dL_areReadings_25 : decode cL_areReadings 25 = .ok (.iload 6, 2) := by decide +kernel
theorem dL_areReadings_27 : decode cL_areReadings 27 = .ok (.ifCond .eq 44, 3) := by decide +kernel
theorem dL_areReadings_30 : decode cL_areReadings 30 = .ok (.aload_n 0, 1) := by decide +kernel
theorem dL_areReadings_31 : decode cL_areReadings 31 = .ok (.iload 7, 2) := by decide +kernel
theorem dL_areReadings_33 : decode cL_areReadings 33 = .ok (.iload_n 1, 1) := by decide +kernel
theorem dL_areReadings_34 : decode cL_areReadings 34 = .ok (.invokestatic 92, 3) := by decide +kernel
theorem dL_areReadings_37 : decode cL_areReadings 37 = .ok (.istore 8, 2) := by decide +kernel
theorem dL_areReadings_39 : decode cL_areReadings 39 = .ok (.iload 8, 2) := by decide +kernel
theorem dL_areReadings_41 : decode cL_areReadings 41 = .ok (.ifCond .lt 7, 3) := by decide +kernel
theorem dL_areReadings_44 : decode cL_areReadings 44 = .ok (.iconst 1, 1) := by decide +kernel
theorem dL_areReadings_45 : decode cL_areReadings 45 = .ok (.goto 4, 3) := by decide +kernel
theorem dL_areReadings_48 : decode cL_areReadings 48 = .ok (.iconst 0, 1) := by decide +kernel
theorem dL_areReadings_49 : decode cL_areReadings 49 = .ok (.istore 6, 2) := by decide +kernel
theorem dL_areReadings_51 : decode cL_areReadings 51 = .ok (.iload_n 1, 1) := by decide +kernel
theorem dL_areReadings_52 : decode cL_areReadings 52 = .ok (.iload 8, 2) := by decide +kernel
theorem dL_areReadings_54 : decode cL_areReadings 54 = .ok (.iadd, 1) := by decide +kernel
theorem dL_areReadings_55 : decode cL_areReadings 55 = .ok (.istore_n 1, 1) := by decide +kernel
theorem dL_areReadings_56 : decode cL_areReadings 56 = .ok (.iload_n 2, 1) := by decide +kernel
theorem dL_areReadings_57 : decode cL_areReadings 57 = .ok (.aload_n 0, 1) := by decide +kernel
theorem dL_areReadings_58 : decode cL_areReadings 58 = .ok (.iload 7, 2) := by decide +kernel
theorem dL_areReadings_60 : decode cL_areReadings 60 = .ok (.invokestatic 88, 3) := by decide +kernel
theorem dL_areReadings_63 : decode cL_areReadings 63 = .ok (.iadd, 1) := by decide +kernel
theorem dL_areReadings_64 : decode cL_areReadings 64 = .ok (.istore_n 2, 1) := by decide +kernel
theorem dL_areReadings_65 : decode cL_areReadings 65 = .ok (.iinc 7 1, 3) := by decide +kernel
theorem dL_areReadings_68 : decode cL_areReadings 68 = .ok (.goto (-50), 3) := by decide +kernel
theorem dL_areReadings_71 : decode cL_areReadings 71 = .ok (.iconst 0, 1) := by decide +kernel
theorem dL_areReadings_72 : decode cL_areReadings 72 = .ok (.istore 7, 2) := by decide +kernel
theorem dL_areReadings_74 : decode cL_areReadings 74 = .ok (.iload 7, 2) := by decide +kernel
theorem dL_areReadings_76 : decode cL_areReadings 76 = .ok (.aload_n 0, 1) := by decide +kernel
theorem dL_areReadings_77 : decode cL_areReadings 77 = .ok (.iconst 2, 1) := by decide +kernel
theorem dL_areReadings_78 : decode cL_areReadings 78 = .ok (.invokevirtual 13, 3) := by decide +kernel
theorem dL_areReadings_81 : decode cL_areReadings 81 = .ok (.if_icmp .ge 165, 3) := by decide +kernel
theorem dL_areReadings_84 : decode cL_areReadings 84 = .ok (.iload 6, 2) := by decide +kernel
theorem dL_areReadings_86 : decode cL_areReadings 86 = .ok (.ifCond .eq 160, 3) := by decide +kernel
theorem dL_areReadings_89 : decode cL_areReadings 89 = .ok (.iload_n 3, 1) := by decide +kernel
theorem dL_areReadings_90 : decode cL_areReadings 90 = .ok (.aload_n 0, 1) := by decide +kernel
theorem dL_areReadings_91 : decode cL_areReadings 91 = .ok (.iload 7, 2) := by decide +kernel
theorem dL_areReadings_93 : decode cL_areReadings 93 = .ok (.bipush 8, 2) := by decide +kernel
theorem dL_areReadings_95 : decode cL_areReadings 95 = .ok (.invokevirtual 23, 3) := by decide +kernel
theorem dL_areReadings_98 : decode cL_areReadings 98 = .ok (.iadd, 1) := by decide +kernel
theorem dL_areReadings_99 : decode cL_areReadings 99 = .ok (.istore_n 3, 1) := by decide +kernel
theorem dL_areReadings_100 : decode cL_areReadings 100 = .ok (.iload 4, 2) := by decide +kernel
theorem dL_areReadings_102 : decode cL_areReadings 102 = .ok (.aload_n 0, 1) := by decide +kernel
theorem dL_areReadings_103 : decode cL_areReadings 103 = .ok (.iload 7, 2) := by decide +kernel
theorem dL_areReadings_105 : decode cL_areReadings 105 = .ok (.bipush 6, 2) := by decide +kernel
theorem dL_areReadings_107 : decode cL_areReadings 107 = .ok (.invokevirtual 23, 3) := by decide +kernel
theorem dL_areReadings_110 : decode cL_areReadings 110 = .ok (.iadd, 1) := by decide +kernel
theorem dL_areReadings_111 : decode cL_areReadings 111 = .ok (.istore 4, 2) := by decide +kernel
theorem dL_areReadings_113 : decode cL_areReadings 113 = .ok (.iload 5, 2) := by decide +kernel
theorem dL_areReadings_115 : decode cL_areReadings 115 = .ok (.aload_n 0, 1) := by decide +kernel
theorem dL_areReadings_116 : decode cL_areReadings 116 = .ok (.iload 7, 2) := by decide +kernel
theorem dL_areReadings_118 : decode cL_areReadings 118 = .ok (.iconst 5, 1) := by decide +kernel
theorem dL_areReadings_119 : decode cL_areReadings 119 = .ok (.invokevirtual 23, 3) := by decide +kernel
theorem dL_areReadings_122 : decode cL_areReadings 122 = .ok (.iadd, 1) := by decide +kernel
theorem dL_areReadings_123 : decode cL_areReadings 123 = .ok (.istore 5, 2) := by decide +kernel
theorem dL_areReadings_125 : decode cL_areReadings 125 = .ok (.aload_n 0, 1) := by decide +kernel
theorem dL_areReadings_126 : decode cL_areReadings 126 = .ok (.iload 7, 2) := by decide +kernel
theorem dL_areReadings_128 : decode cL_areReadings 128 = .ok (.bipush 6, 2) := by decide +kernel
theorem dL_areReadings_130 : decode cL_areReadings 130 = .ok (.invokevirtual 23, 3) := by decide +kernel
theorem dL_areReadings_133 : decode cL_areReadings 133 = .ok (.aload_n 0, 1) := by decide +kernel
theorem dL_areReadings_134 : decode cL_areReadings 134 = .ok (.iload 7, 2) := by decide +kernel
theorem dL_areReadings_136 : decode cL_areReadings 136 = .ok (.bipush 7, 2) := by decide +kernel
theorem dL_areReadings_138 : decode cL_areReadings 138 = .ok (.invokevirtual 23, 3) := by decide +kernel
theorem dL_areReadings_141 : decode cL_areReadings 141 = .ok (.if_icmp .gt 96, 3) := by decide +kernel
theorem dL_areReadings_144 : decode cL_areReadings 144 = .ok (.aload_n 0, 1) := by decide +kernel
theorem dL_areReadings_145 : decode cL_areReadings 145 = .ok (.iload 7, 2) := by decide +kernel
theorem dL_areReadings_147 : decode cL_areReadings 147 = .ok (.bipush 8, 2) := by decide +kernel
theorem dL_areReadings_149 : decode cL_areReadings 149 = .ok (.invokevirtual 23, 3) := by decide +kernel
theorem dL_areReadings_152 : decode cL_areReadings 152 = .ok (.aload_n 0, 1) := by decide +kernel
theorem dL_areReadings_153 : decode cL_areReadings 153 = .ok (.iload 7, 2) := by decide +kernel
theorem dL_areReadings_155 : decode cL_areReadings 155 = .ok (.bipush 6, 2) := by decide +kernel
theorem dL_areReadings_157 : decode cL_areReadings 157 = .ok (.invokevirtual 23, 3) := by decide +kernel
theorem dL_areReadings_160 : decode cL_areReadings 160 = .ok (.if_icmp .gt 77, 3) := by decide +kernel
theorem dL_areReadings_163 : decode cL_areReadings 163 = .ok (.aload_n 0, 1) := by decide +kernel
theorem dL_areReadings_164 : decode cL_areReadings 164 = .ok (.iload 7, 2) := by decide +kernel
theorem dL_areReadings_166 : decode cL_areReadings 166 = .ok (.iconst 0, 1) := by decide +kernel
theorem dL_areReadings_167 : decode cL_areReadings 167 = .ok (.invokevirtual 23, 3) := by decide +kernel
theorem dL_areReadings_170 : decode cL_areReadings 170 = .ok (.ifCond .le 67, 3) := by decide +kernel
theorem dL_areReadings_173 : decode cL_areReadings 173 = .ok (.aload_n 0, 1) := by decide +kernel
theorem dL_areReadings_174 : decode cL_areReadings 174 = .ok (.iload 7, 2) := by decide +kernel
theorem dL_areReadings_176 : decode cL_areReadings 176 = .ok (.iconst 0, 1) := by decide +kernel
theorem dL_areReadings_177 : decode cL_areReadings 177 = .ok (.invokevirtual 23, 3) := by decide +kernel
theorem dL_areReadings_180 : decode cL_areReadings 180 = .ok (.iconst 5, 1) := by decide +kernel
theorem dL_areReadings_181 : decode cL_areReadings 181 = .ok (.if_icmp .ge 56, 3) := by decide +kernel
theorem dL_areReadings_184 : decode cL_areReadings 184 = .ok (.aload_n 0, 1) := by decide +kernel
theorem dL_areReadings_185 : decode cL_areReadings 185 = .ok (.iload 7, 2) := by decide +kernel
theorem dL_areReadings_187 : decode cL_areReadings 187 = .ok (.aload_n 0, 1) := by decide +kernel
theorem dL_areReadings_188 : decode cL_areReadings 188 = .ok (.iload 7, 2) := by decide +kernel
theorem dL_areReadings_190 : decode cL_areReadings 190 = .ok (.iconst 0, 1) := by decide +kernel
theorem dL_areReadings_191 : decode cL_areReadings 191 = .ok (.invokevirtual 23, 3) := by decide +kernel
theorem dL_areReadings_194 : decode cL_areReadings 194 = .ok (.invokevirtual 23, 3) := by decide +kernel
theorem dL_areReadings_197 : decode cL_areReadings 197 = .ok (.ifCond .lt 40, 3) := by decide +kernel
theorem dL_areReadings_200 : decode cL_areReadings 200 = .ok (.aload_n 0, 1) := by decide +kernel
theorem dL_areReadings_201 : decode cL_areReadings 201 = .ok (.iload 7, 2) := by decide +kernel
theorem dL_areReadings_203 : decode cL_areReadings 203 = .ok (.iconst 5, 1) := by decide +kernel
theorem dL_areReadings_204 : decode cL_areReadings 204 = .ok (.invokevirtual 23, 3) := by decide +kernel
theorem dL_areReadings_207 : decode cL_areReadings 207 = .ok (.ifCond .eq 14, 3) := by decide +kernel
theorem dL_areReadings_210 : decode cL_areReadings 210 = .ok (.aload_n 0, 1) := by decide +kernel
theorem dL_areReadings_211 : decode cL_areReadings 211 = .ok (.iload 7, 2) := by decide +kernel
theorem dL_areReadings_213 : decode cL_areReadings 213 = .ok (.bipush 8, 2) := by decide +kernel
theorem dL_areReadings_215 : decode cL_areReadings 215 = .ok (.invokevirtual 23, 3) := by decide +kernel
theorem dL_areReadings_218 : decode cL_areReadings 218 = .ok (.ifCond .ne 19, 3) := by decide +kernel
theorem dL_areReadings_221 : decode cL_areReadings 221 = .ok (.aload_n 0, 1) := by decide +kernel
theorem dL_areReadings_222 : decode cL_areReadings 222 = .ok (.iload 7, 2) := by decide +kernel
theorem dL_areReadings_224 : decode cL_areReadings 224 = .ok (.iload 7, 2) := by decide +kernel
theorem dL_areReadings_226 : decode cL_areReadings 226 = .ok (.invokevirtual 82, 3) := by decide +kernel
theorem dL_areReadings_229 : decode cL_areReadings 229 = .ok (.iconst 1, 1) := by decide +kernel
theorem dL_areReadings_230 : decode cL_areReadings 230 = .ok (.if_icmp .ne 7, 3) := by decide +kernel
theorem dL_areReadings_233 : decode cL_areReadings 233 = .ok (.iconst 1, 1) := by decide +kernel
theorem dL_areReadings_234 : decode cL_areReadings 234 = .ok (.goto 4, 3) := by decide +kernel
theorem dL_areReadings_237 : decode cL_areReadings 237 = .ok (.iconst 0, 1) := by decide +kernel
theorem dL_areReadings_238 : decode cL_areReadings 238 = .ok (.istore 6, 2) := by decide +kernel
theorem dL_areReadings_240 : decode cL_areReadings 240 = .ok (.iinc 7 1, 3) := by decide +kernel
theorem dL_areReadings_243 : decode cL_areReadings 243 = .ok (.goto (-169), 3) := by decide +kernel
theorem dL_areReadings_246 : decode cL_areReadings 246 = .ok (.iload 6, 2) := by decide +kernel
theorem dL_areReadings_248 : decode cL_areReadings 248 = .ok (.ifCond .eq 61, 3) := by decide +kernel
theorem dL_areReadings_251 : decode cL_areReadings 251 = .ok (.iload_n 1, 1) := by decide +kernel
theorem dL_areReadings_252 : decode cL_areReadings 252 = .ok (.aload_n 0, 1) := by decide +kernel
theorem dL_areReadings_253 : decode cL_areReadings 253 = .ok (.iconst 4, 1) := by decide +kernel
theorem dL_areReadings_254 : decode cL_areReadings 254 = .ok (.invokevirtual 13, 3) := by decide +kernel
theorem dL_areReadings_257 : decode cL_areReadings 257 = .ok (.if_icmp .ne 52, 3) := by decide +kernel
theorem dL_areReadings_260 : decode cL_areReadings 260 = .ok (.iload_n 2, 1) := by decide +kernel
theorem dL_areReadings_261 : decode cL_areReadings 261 = .ok (.aload_n 0, 1) := by decide +kernel
theorem dL_areReadings_262 : decode cL_areReadings 262 = .ok (.iconst 1, 1) := by decide +kernel
theorem dL_areReadings_263 : decode cL_areReadings 263 = .ok (.invokevirtual 13, 3) := by decide +kernel
theorem dL_areReadings_266 : decode cL_areReadings 266 = .ok (.if_icmp .ne 43, 3) := by decide +kernel
theorem dL_areReadings_269 : decode cL_areReadings 269 = .ok (.iload_n 3, 1) := by decide +kernel
theorem dL_areReadings_270 : decode cL_areReadings 270 = .ok (.iload_n 1, 1) := by decide +kernel
theorem dL_areReadings_271 : decode cL_areReadings 271 = .ok (.if_icmp .ne 38, 3) := by decide +kernel
theorem dL_areReadings_274 : decode cL_areReadings 274 = .ok (.iload 4, 2) := by decide +kernel
theorem dL_areReadings_276 : decode cL_areReadings 276 = .ok (.aload_n 0, 1) := by decide +kernel
theorem dL_areReadings_277 : decode cL_areReadings 277 = .ok (.iconst 5, 1) := by decide +kernel
theorem dL_areReadings_278 : decode cL_areReadings 278 = .ok (.invokevirtual 13, 3) := by decide +kernel
theorem dL_areReadings_281 : decode cL_areReadings 281 = .ok (.if_icmp .ne 28, 3) := by decide +kernel
theorem dL_areReadings_284 : decode cL_areReadings 284 = .ok (.iload 5, 2) := by decide +kernel
theorem dL_areReadings_286 : decode cL_areReadings 286 = .ok (.aload_n 0, 1) := by decide +kernel
theorem dL_areReadings_287 : decode cL_areReadings 287 = .ok (.iconst 3, 1) := by decide +kernel
theorem dL_areReadings_288 : decode cL_areReadings 288 = .ok (.invokevirtual 13, 3) := by decide +kernel
theorem dL_areReadings_291 : decode cL_areReadings 291 = .ok (.if_icmp .ne 18, 3) := by decide +kernel
theorem dL_areReadings_294 : decode cL_areReadings 294 = .ok (.aload_n 0, 1) := by decide +kernel
theorem dL_areReadings_295 : decode cL_areReadings 295 = .ok (.iload_n 1, 1) := by decide +kernel
theorem dL_areReadings_296 : decode cL_areReadings 296 = .ok (.iconst 0, 1) := by decide +kernel
theorem dL_areReadings_297 : decode cL_areReadings 297 = .ok (.invokevirtual 76, 3) := by decide +kernel
theorem dL_areReadings_300 : decode cL_areReadings 300 = .ok (.bipush (-99), 2) := by decide +kernel
theorem dL_areReadings_302 : decode cL_areReadings 302 = .ok (.if_icmp .ne 7, 3) := by decide +kernel
theorem dL_areReadings_305 : decode cL_areReadings 305 = .ok (.iconst 1, 1) := by decide +kernel
theorem dL_areReadings_306 : decode cL_areReadings 306 = .ok (.goto 4, 3) := by decide +kernel
theorem dL_areReadings_309 : decode cL_areReadings 309 = .ok (.iconst 0, 1) := by decide +kernel
theorem dL_areReadings_310 : decode cL_areReadings 310 = .ok (.ireturn, 1) := by decide +kernel
theorem dL_areReasons_0 : decode cL_areReasons 0 = .ok (.iconst 1, 1) := by decide +kernel
theorem dL_areReasons_1 : decode cL_areReasons 1 = .ok (.istore_n 2, 1) := by decide +kernel
theorem dL_areReasons_2 : decode cL_areReasons 2 = .ok (.aload_n 0, 1) := by decide +kernel
theorem dL_areReasons_3 : decode cL_areReasons 3 = .ok (.iload_n 1, 1) := by decide +kernel
theorem dL_areReasons_4 : decode cL_areReasons 4 = .ok (.invokestatic 88, 3) := by decide +kernel
theorem dL_areReasons_7 : decode cL_areReasons 7 = .ok (.istore_n 3, 1) := by decide +kernel
theorem dL_areReasons_8 : decode cL_areReasons 8 = .ok (.iconst 0, 1) := by decide +kernel
theorem dL_areReasons_9 : decode cL_areReasons 9 = .ok (.istore 4, 2) := by decide +kernel
theorem dL_areReasons_11 : decode cL_areReasons 11 = .ok (.iload 4, 2) := by decide +kernel
theorem dL_areReasons_13 : decode cL_areReasons 13 = .ok (.aload_n 0, 1) := by decide +kernel
theorem dL_areReasons_14 : decode cL_areReasons 14 = .ok (.iconst 2, 1) := by decide +kernel
theorem dL_areReasons_15 : decode cL_areReasons 15 = .ok (.invokevirtual 13, 3) := by decide +kernel
theorem dL_areReasons_18 : decode cL_areReasons 18 = .ok (.if_icmp .ge 259, 3) := by decide +kernel
theorem dL_areReasons_21 : decode cL_areReasons 21 = .ok (.iload_n 2, 1) := by decide +kernel
theorem dL_areReasons_22 : decode cL_areReasons 22 = .ok (.ifCond .eq 255, 3) := by decide +kernel
theorem dL_areReasons_25 : decode cL_areReasons 25 = .ok (.iconst 0, 1) := by decide +kernel
theorem dL_areReasons_26 : decode cL_areReasons 26 = .ok (.istore 5, 2) := by decide +kernel
theorem dL_areReasons_28 : decode cL_areReasons 28 = .ok (.iconst 0, 1) := by decide +kernel
theorem dL_areReasons_29 : decode cL_areReasons 29 = .ok (.istore 6, 2) := by decide +kernel
theorem dL_areReasons_31 : decode cL_areReasons 31 = .ok (.iload 6, 2) := by decide +kernel
theorem dL_areReasons_33 : decode cL_areReasons 33 = .ok (.iload_n 3, 1) := by decide +kernel
theorem dL_areReasons_34 : decode cL_areReasons 34 = .ok (.if_icmp .ge 195, 3) := by decide +kernel
theorem dL_areReasons_37 : decode cL_areReasons 37 = .ok (.iload_n 2, 1) := by decide +kernel
theorem dL_areReasons_38 : decode cL_areReasons 38 = .ok (.ifCond .eq 191, 3) := by decide +kernel
theorem dL_areReasons_41 : decode cL_areReasons 41 = .ok (.aload_n 0, 1) := by decide +kernel
theorem dL_areReasons_42 : decode cL_areReasons 42 = .ok (.iload_n 1, 1) := by decide +kernel
theorem dL_areReasons_43 : decode cL_areReasons 43 = .ok (.iload 6, 2) := by decide +kernel
theorem dL_areReasons_45 : decode cL_areReasons 45 = .ok (.iload 4, 2) := by decide +kernel
theorem dL_areReasons_47 : decode cL_areReasons 47 = .ok (.invokevirtual 79, 3) := by decide +kernel
theorem dL_areReasons_50 : decode cL_areReasons 50 = .ok (.istore 7, 2) := by decide +kernel
theorem dL_areReasons_52 : decode cL_areReasons 52 = .ok (.iload 5, 2) := by decide +kernel
theorem dL_areReasons_54 : decode cL_areReasons 54 = .ok (.iload 7, 2) := by decide +kernel
theorem dL_areReasons_56 : decode cL_areReasons 56 = .ok (.ifCond .ne 7, 3) := by decide +kernel
theorem dL_areReasons_59 : decode cL_areReasons 59 = .ok (.iconst 1, 1) := by decide +kernel
theorem dL_areReasons_60 : decode cL_areReasons 60 = .ok (.goto 4, 3) := by decide +kernel
theorem dL_areReasons_63 : decode cL_areReasons 63 = .ok (.iconst 0, 1) := by decide +kernel
theorem dL_areReasons_64 : decode cL_areReasons 64 = .ok (.iadd, 1) := by decide +kernel
theorem dL_areReasons_65 : decode cL_areReasons 65 = .ok (.istore 5, 2) := by decide +kernel
theorem dL_areReasons_67 : decode cL_areReasons 67 = .ok (.aload_n 0, 1) := by decide +kernel
theorem dL_areReasons_68 : decode cL_areReasons 68 = .ok (.iload_n 1, 1) := by decide +kernel
theorem dL_areReasons_69 : decode cL_areReasons 69 = .ok (.iload 6, 2) := by decide +kernel
theorem dL_areReasons_71 : decode cL_areReasons 71 = .ok (.iconst 1, 1) := by decide +kernel
theorem dL_areReasons_72 : decode cL_areReasons 72 = .ok (.invokevirtual 19, 3) := by decide +kernel
theorem dL_areReasons_75 : decode cL_areReasons 75 = .ok (.istore 8, 2) := by decide +kernel
theorem dL_areReasons_77 : decode cL_areReasons 77 = .ok (.iload 7, 2) := by decide +kernel
theorem dL_areReasons_79 : decode cL_areReasons 79 = .ok (.ifCond .lt 142, 3) := by decide +kernel
theorem dL_areReasons_82 : decode cL_areReasons 82 = .ok (.iload 7, 2) := by decide +kernel
theorem dL_areReasons_84 : decode cL_areReasons 84 = .ok (.bipush 6, 2) := by decide +kernel
theorem dL_areReasons_86 : decode cL_areReasons 86 = .ok (.if_icmp .ge 135, 3) := by decide +kernel
theorem dL_areReasons_89 : decode cL_areReasons 89 = .ok (.iload 7, 2) := by decide +kernel
theorem dL_areReasons_91 : decode cL_areReasons 91 = .ok (.iconst 2, 1) := by decide +kernel
theorem dL_areReasons_92 : decode cL_areReasons 92 = .ok (.if_icmp .ne 38, 3) := by decide +kernel
theorem dL_areReasons_95 : decode cL_areReasons 95 = .ok (.iload 8, 2) := by decide +kernel
theorem dL_areReasons_97 : decode cL_areReasons 97 = .ok (.iload 4, 2) := by decide +kernel
theorem dL_areReasons_99 : decode cL_areReasons 99 = .ok (.if_icmp .eq 122, 3) := by decide +kernel
theorem dL_areReasons_102 : decode cL_areReasons 102 = .ok (.aload_n 0, 1) := by decide +kernel
theorem dL_areReasons_103 : decode cL_areReasons 103 = .ok (.iload_n 1, 1) := by decide +kernel
theorem dL_areReasons_104 : decode cL_areReasons 104 = .ok (.iload 6, 2) := by decide +kernel
theorem dL_areReasons_106 : decode cL_areReasons 106 = .ok (.iconst 2, 1) := by decide +kernel
theorem dL_areReasons_107 : decode cL_areReasons 107 = .ok (.invokevirtual 19, 3) := by decide +kernel
theorem dL_areReasons_110 : decode cL_areReasons 110 = .ok (.ifCond .ne 111, 3) := by decide +kernel
theorem dL_areReasons_113 : decode cL_areReasons 113 = .ok (.aload_n 0, 1) := by decide +kernel
theorem dL_areReasons_114 : decode cL_areReasons 114 = .ok (.iload 8, 2) := by decide +kernel
theorem dL_areReasons_116 : decode cL_areReasons 116 = .ok (.iconst 0, 1) := by decide +kernel
theorem dL_areReasons_117 : decode cL_areReasons 117 = .ok (.invokevirtual 23, 3) := by decide +kernel
theorem dL_areReasons_120 : decode cL_areReasons 120 = .ok (.aload_n 0, 1) := by decide +kernel
theorem dL_areReasons_121 : decode cL_areReasons 121 = .ok (.iload 4, 2) := by decide +kernel
theorem dL_areReasons_123 : decode cL_areReasons 123 = .ok (.iconst 0, 1) := by decide +kernel
theorem dL_areReasons_124 : decode cL_areReasons 124 = .ok (.invokevirtual 23, 3) := by decide +kernel
theorem dL_areReasons_127 : decode cL_areReasons 127 = .ok (.if_icmp .le 94, 3) := by decide +kernel
theorem dL_areReasons_130 : decode cL_areReasons 130 = .ok (.iload 7, 2) := by decide +kernel
theorem dL_areReasons_132 : decode cL_areReasons 132 = .ok (.iconst 3, 1) := by decide +kernel
theorem dL_areReasons_133 : decode cL_areReasons 133 = .ok (.if_icmp .ne 14, 3) := by decide +kernel
theorem dL_areReasons_136 : decode cL_areReasons 136 = .ok (.aload_n 0, 1) := by decide +kernel
theorem dL_areReasons_137 : decode cL_areReasons 137 = .ok (.iload_n 1, 1) := by decide +kernel
theorem dL_areReasons_138 : decode cL_areReasons 138 = .ok (.iload 6, 2) := by decide +kernel
theorem dL_areReasons_140 : decode cL_areReasons 140 = .ok (.iconst 2, 1) := by decide +kernel
theorem dL_areReasons_141 : decode cL_areReasons 141 = .ok (.invokevirtual 19, 3) := by decide +kernel
theorem dL_areReasons_144 : decode cL_areReasons 144 = .ok (.ifCond .le 77, 3) := by decide +kernel
theorem dL_areReasons_147 : decode cL_areReasons 147 = .ok (.iload 7, 2) := by decide +kernel
theorem dL_areReasons_149 : decode cL_areReasons 149 = .ok (.iconst 4, 1) := by decide +kernel
theorem dL_areReasons_150 : decode cL_areReasons 150 = .ok (.if_icmp .ne 14, 3) := by decide +kernel
theorem dL_areReasons_153 : decode cL_areReasons 153 = .ok (.aload_n 0, 1) := by decide +kernel
theorem dL_areReasons_154 : decode cL_areReasons 154 = .ok (.iload 4, 2) := by decide +kernel
theorem dL_areReasons_156 : decode cL_areReasons 156 = .ok (.iconst 5, 1) := by decide +kernel
theorem dL_areReasons_157 : decode cL_areReasons 157 = .ok (.invokevirtual 23, 3) := by decide +kernel
theorem dL_areReasons_160 : decode cL_areReasons 160 = .ok (.iconst 1, 1) := by decide +kernel
theorem dL_areReasons_161 : decode cL_areReasons 161 = .ok (.if_icmp .ne 60, 3) := by decide +kernel
theorem dL_areReasons_164 : decode cL_areReasons 164 = .ok (.iload 7, 2) := by decide +kernel
theorem dL_areReasons_166 : decode cL_areReasons 166 = .ok (.iconst 5, 1) := by decide +kernel
theorem dL_areReasons_167 : decode cL_areReasons 167 = .ok (.if_icmp .ne 15, 3) := by decide +kernel
theorem dL_areReasons_170 : decode cL_areReasons 170 = .ok (.aload_n 0, 1) := by decide +kernel
theorem dL_areReasons_171 : decode cL_areReasons 171 = .ok (.iload 4, 2) := by decide +kernel
theorem dL_areReasons_173 : decode cL_areReasons 173 = .ok (.iload_n 1, 1) := by decide +kernel
theorem dL_areReasons_174 : decode cL_areReasons 174 = .ok (.invokevirtual 73, 3) := by decide +kernel
theorem dL_areReasons_177 : decode cL_areReasons 177 = .ok (.iload 6, 2) := by decide +kernel
theorem dL_areReasons_179 : decode cL_areReasons 179 = .ok (.if_icmp .ge 42, 3) := by decide +kernel
theorem dL_areReasons_182 : decode cL_areReasons 182 = .ok (.iload 7, 2) := by decide +kernel
theorem dL_areReasons_184 : decode cL_areReasons 184 = .ok (.iconst 4, 1) := by decide +kernel
theorem dL_areReasons_185 : decode cL_areReasons 185 = .ok (.if_icmp .eq 32, 3) := by decide +kernel
theorem dL_areReasons_188 : decode cL_areReasons 188 = .ok (.iload 7, 2) := by decide +kernel
theorem dL_areReasons_190 : decode cL_areReasons 190 = .ok (.iconst 5, 1) := by decide +kernel
theorem dL_areReasons_191 : decode cL_areReasons 191 = .ok (.if_icmp .eq 26, 3) := by decide +kernel
theorem dL_areReasons_194 : decode cL_areReasons 194 = .ok (.iload 7, 2) := by decide +kernel
theorem dL_areReasons_196 : decode cL_areReasons 196 = .ok (.ifCond .eq 21, 3) := by decide +kernel
theorem dL_areReasons_199 : decode cL_areReasons 199 = .ok (.iload 8, 2) := by decide +kernel
theorem dL_areReasons_201 : decode cL_areReasons 201 = .ok (.iload 4, 2) := by decide +kernel
theorem dL_areReasons_203 : decode cL_areReasons 203 = .ok (.if_icmp .ne 14, 3) := by decide +kernel
theorem dL_areReasons_206 : decode cL_areReasons 206 = .ok (.aload_n 0, 1) := by decide +kernel
theorem dL_areReasons_207 : decode cL_areReasons 207 = .ok (.iload_n 1, 1) := by decide +kernel
theorem dL_areReasons_208 : decode cL_areReasons 208 = .ok (.iload 6, 2) := by decide +kernel
theorem dL_areReasons_210 : decode cL_areReasons 210 = .ok (.iconst 2, 1) := by decide +kernel
theorem dL_areReasons_211 : decode cL_areReasons 211 = .ok (.invokevirtual 19, 3) := by decide +kernel
theorem dL_areReasons_214 : decode cL_areReasons 214 = .ok (.ifCond .le 7, 3) := by decide +kernel
theorem dL_areReasons_217 : decode cL_areReasons 217 = .ok (.iconst 1, 1) := by decide +kernel
theorem dL_areReasons_218 : decode cL_areReasons 218 = .ok (.goto 4, 3) := by decide +kernel
theorem dL_areReasons_221 : decode cL_areReasons 221 = .ok (.iconst 0, 1) := by decide +kernel
theorem dL_areReasons_222 : decode cL_areReasons 222 = .ok (.istore_n 2, 1) := by decide +kernel
theorem dL_areReasons_223 : decode cL_areReasons 223 = .ok (.iinc 6 1, 3) := by decide +kernel
theorem dL_areReasons_226 : decode cL_areReasons 226 = .ok (.goto (-195), 3) := by decide +kernel
theorem dL_areReasons_229 : decode cL_areReasons 229 = .ok (.iload_n 2, 1) := by decide +kernel
theorem dL_areReasons_230 : decode cL_areReasons 230 = .ok (.ifCond .eq 39, 3) := by decide +kernel
theorem dL_areReasons_233 : decode cL_areReasons 233 = .ok (.iload 5, 2) := by decide +kernel
theorem dL_areReasons_235 : decode cL_areReasons 235 = .ok (.aload_n 0, 1) := by decide +kernel
theorem dL_areReasons_236 : decode cL_areReasons 236 = .ok (.iload 4, 2) := by decide +kernel
theorem dL_areReasons_238 : decode cL_areReasons 238 = .ok (.iconst 5, 1) := by decide +kernel
theorem dL_areReasons_239 : decode cL_areReasons 239 = .ok (.invokevirtual 23, 3) := by decide +kernel
theorem dL_areReasons_242 : decode cL_areReasons 242 = .ok (.ifCond .ne 19, 3) := by decide +kernel
theorem dL_areReasons_245 : decode cL_areReasons 245 = .ok (.aload_n 0, 1) := by decide +kernel
theorem dL_areReasons_246 : decode cL_areReasons 246 = .ok (.iload 4, 2) := by decide +kernel
theorem dL_areReasons_248 : decode cL_areReasons 248 = .ok (.iload_n 1, 1) := by decide +kernel
theorem dL_areReasons_249 : decode cL_areReasons 249 = .ok (.invokevirtual 73, 3) := by decide +kernel
theorem dL_areReasons_252 : decode cL_areReasons 252 = .ok (.bipush (-99), 2) := by decide +kernel
theorem dL_areReasons_254 : decode cL_areReasons 254 = .ok (.if_icmp .eq 7, 3) := by decide +kernel
theorem dL_areReasons_257 : decode cL_areReasons 257 = .ok (.iconst 1, 1) := by decide +kernel
theorem dL_areReasons_258 : decode cL_areReasons 258 = .ok (.goto 4, 3) := by decide +kernel
theorem dL_areReasons_261 : decode cL_areReasons 261 = .ok (.iconst 0, 1) := by decide +kernel
theorem dL_areReasons_262 : decode cL_areReasons 262 = .ok (.if_icmp .ne 7, 3) := by decide +kernel
theorem dL_areReasons_265 : decode cL_areReasons 265 = .ok (.iconst 1, 1) := by decide +kernel
theorem dL_areReasons_266 : decode cL_areReasons 266 = .ok (.goto 4, 3) := by decide +kernel
theorem dL_areReasons_269 : decode cL_areReasons 269 = .ok (.iconst 0, 1) := by decide +kernel
theorem dL_areReasons_270 : decode cL_areReasons 270 = .ok (.istore_n 2, 1) := by decide +kernel
theorem dL_areReasons_271 : decode cL_areReasons 271 = .ok (.iinc 4 1, 3) := by decide +kernel
theorem dL_areReasons_274 : decode cL_areReasons 274 = .ok (.goto (-263), 3) := by decide +kernel
theorem dL_areReasons_277 : decode cL_areReasons 277 = .ok (.iload_n 2, 1) := by decide +kernel
theorem dL_areReasons_278 : decode cL_areReasons 278 = .ok (.ireturn, 1) := by decide +kernel
theorem dL_areBases_0 : decode cL_areBases 0 = .ok (.iconst 0, 1) := by decide +kernel
theorem dL_areBases_1 : decode cL_areBases 1 = .ok (.istore_n 1, 1) := by decide +kernel
theorem dL_areBases_2 : decode cL_areBases 2 = .ok (.iconst 1, 1) := by decide +kernel
theorem dL_areBases_3 : decode cL_areBases 3 = .ok (.istore_n 2, 1) := by decide +kernel
theorem dL_areBases_4 : decode cL_areBases 4 = .ok (.iconst 0, 1) := by decide +kernel
theorem dL_areBases_5 : decode cL_areBases 5 = .ok (.istore_n 3, 1) := by decide +kernel
theorem dL_areBases_6 : decode cL_areBases 6 = .ok (.iload_n 3, 1) := by decide +kernel
theorem dL_areBases_7 : decode cL_areBases 7 = .ok (.aload_n 0, 1) := by decide +kernel
theorem dL_areBases_8 : decode cL_areBases 8 = .ok (.iconst 0, 1) := by decide +kernel
theorem dL_areBases_9 : decode cL_areBases 9 = .ok (.invokevirtual 13, 3) := by decide +kernel
theorem dL_areBases_12 : decode cL_areBases 12 = .ok (.if_icmp .ge 90, 3) := by decide +kernel
theorem dL_areBases_15 : decode cL_areBases 15 = .ok (.iload_n 2, 1) := by decide +kernel
theorem dL_areBases_16 : decode cL_areBases 16 = .ok (.ifCond .eq 86, 3) := by decide +kernel
theorem dL_areBases_19 : decode cL_areBases 19 = .ok (.aload_n 0, 1) := by decide +kernel
theorem dL_areBases_20 : decode cL_areBases 20 = .ok (.iload_n 3, 1) := by decide +kernel
theorem dL_areBases_21 : decode cL_areBases 21 = .ok (.invokevirtual 27, 3) := by decide +kernel
theorem dL_areBases_24 : decode cL_areBases 24 = .ok (.istore 4, 2) := by decide +kernel
theorem dL_areBases_26 : decode cL_areBases 26 = .ok (.iload 4, 2) := by decide +kernel
theorem dL_areBases_28 : decode cL_areBases 28 = .ok (.ifCond .lt 52, 3) := by decide +kernel
theorem dL_areBases_31 : decode cL_areBases 31 = .ok (.aload_n 0, 1) := by decide +kernel
theorem dL_areBases_32 : decode cL_areBases 32 = .ok (.iload 4, 2) := by decide +kernel
theorem dL_areBases_34 : decode cL_areBases 34 = .ok (.invokevirtual 27, 3) := by decide +kernel
theorem dL_areBases_37 : decode cL_areBases 37 = .ok (.iload 4, 2) := by decide +kernel
theorem dL_areBases_39 : decode cL_areBases 39 = .ok (.if_icmp .ne 41, 3) := by decide +kernel
theorem dL_areBases_42 : decode cL_areBases 42 = .ok (.aload_n 0, 1) := by decide +kernel
theorem dL_areBases_43 : decode cL_areBases 43 = .ok (.iload_n 3, 1) := by decide +kernel
theorem dL_areBases_44 : decode cL_areBases 44 = .ok (.iconst 0, 1) := by decide +kernel
theorem dL_areBases_45 : decode cL_areBases 45 = .ok (.invokevirtual 70, 3) := by decide +kernel
theorem dL_areBases_48 : decode cL_areBases 48 = .ok (.bipush 97, 2) := by decide +kernel
theorem dL_areBases_50 : decode cL_areBases 50 = .ok (.if_icmp .lt 30, 3) := by decide +kernel
theorem dL_areBases_53 : decode cL_areBases 53 = .ok (.aload_n 0, 1) := by decide +kernel
theorem dL_areBases_54 : decode cL_areBases 54 = .ok (.iload_n 3, 1) := by decide +kernel
theorem dL_areBases_55 : decode cL_areBases 55 = .ok (.iconst 0, 1) := by decide +kernel
theorem dL_areBases_56 : decode cL_areBases 56 = .ok (.invokevirtual 70, 3) := by decide +kernel
theorem dL_areBases_59 : decode cL_areBases 59 = .ok (.bipush 122, 2) := by decide +kernel
theorem dL_areBases_61 : decode cL_areBases 61 = .ok (.if_icmp .gt 19, 3) := by decide +kernel
theorem dL_areBases_64 : decode cL_areBases 64 = .ok (.aload_n 0, 1) := by decide +kernel
theorem dL_areBases_65 : decode cL_areBases 65 = .ok (.iload_n 3, 1) := by decide +kernel
theorem dL_areBases_66 : decode cL_areBases 66 = .ok (.bipush 8, 2) := by decide +kernel
theorem dL_areBases_68 : decode cL_areBases 68 = .ok (.invokevirtual 70, 3) := by decide +kernel
theorem dL_areBases_71 : decode cL_areBases 71 = .ok (.bipush (-99), 2) := by decide +kernel
theorem dL_areBases_73 : decode cL_areBases 73 = .ok (.if_icmp .ne 7, 3) := by decide +kernel
theorem dL_areBases_76 : decode cL_areBases 76 = .ok (.iconst 1, 1) := by decide +kernel
theorem dL_areBases_77 : decode cL_areBases 77 = .ok (.goto 4, 3) := by decide +kernel
theorem dL_areBases_80 : decode cL_areBases 80 = .ok (.iconst 0, 1) := by decide +kernel
theorem dL_areBases_81 : decode cL_areBases 81 = .ok (.istore_n 2, 1) := by decide +kernel
theorem dL_areBases_82 : decode cL_areBases 82 = .ok (.iload_n 1, 1) := by decide +kernel
theorem dL_areBases_83 : decode cL_areBases 83 = .ok (.iload 4, 2) := by decide +kernel
theorem dL_areBases_85 : decode cL_areBases 85 = .ok (.iload_n 3, 1) := by decide +kernel
theorem dL_areBases_86 : decode cL_areBases 86 = .ok (.if_icmp .ne 7, 3) := by decide +kernel
theorem dL_areBases_89 : decode cL_areBases 89 = .ok (.iconst 0, 1) := by decide +kernel
theorem dL_areBases_90 : decode cL_areBases 90 = .ok (.goto 4, 3) := by decide +kernel
theorem dL_areBases_93 : decode cL_areBases 93 = .ok (.iconst 1, 1) := by decide +kernel
theorem dL_areBases_94 : decode cL_areBases 94 = .ok (.iadd, 1) := by decide +kernel
theorem dL_areBases_95 : decode cL_areBases 95 = .ok (.istore_n 1, 1) := by decide +kernel
theorem dL_areBases_96 : decode cL_areBases 96 = .ok (.iinc 3 1, 3) := by decide +kernel
theorem dL_areBases_99 : decode cL_areBases 99 = .ok (.goto (-93), 3) := by decide +kernel
theorem dL_areBases_102 : decode cL_areBases 102 = .ok (.iload_n 2, 1) := by decide +kernel
theorem dL_areBases_103 : decode cL_areBases 103 = .ok (.ifCond .eq 17, 3) := by decide +kernel
theorem dL_areBases_106 : decode cL_areBases 106 = .ok (.iload_n 1, 1) := by decide +kernel
theorem dL_areBases_107 : decode cL_areBases 107 = .ok (.aload_n 0, 1) := by decide +kernel
theorem dL_areBases_108 : decode cL_areBases 108 = .ok (.bipush 6, 2) := by decide +kernel
theorem dL_areBases_110 : decode cL_areBases 110 = .ok (.invokevirtual 13, 3) := by decide +kernel
theorem dL_areBases_113 : decode cL_areBases 113 = .ok (.if_icmp .ne 7, 3) := by decide +kernel
theorem dL_areBases_116 : decode cL_areBases 116 = .ok (.iconst 1, 1) := by decide +kernel
theorem dL_areBases_117 : decode cL_areBases 117 = .ok (.goto 4, 3) := by decide +kernel
theorem dL_areBases_120 : decode cL_areBases 120 = .ok (.iconst 0, 1) := by decide +kernel
theorem dL_areBases_121 : decode cL_areBases 121 = .ok (.ireturn, 1) := by decide +kernel
theorem dL_isGain_0 : decode cL_isGain 0 = .ok (.iload_n 1, 1) := by decide +kernel
theorem dL_isGain_1 : decode cL_isGain 1 = .ok (.iconst 5, 1) := by decide +kernel
theorem dL_isGain_2 : decode cL_isGain 2 = .ok (.invokestatic 96, 3) := by decide +kernel
theorem dL_isGain_5 : decode cL_isGain 5 = .ok (.istore_n 2, 1) := by decide +kernel
theorem dL_isGain_6 : decode cL_isGain 6 = .ok (.iload_n 1, 1) := by decide +kernel
theorem dL_isGain_7 : decode cL_isGain 7 = .ok (.iconst 4, 1) := by decide +kernel
theorem dL_isGain_8 : decode cL_isGain 8 = .ok (.ishr, 1) := by decide +kernel
theorem dL_isGain_9 : decode cL_isGain 9 = .ok (.iconst 3, 1) := by decide +kernel
theorem dL_isGain_10 : decode cL_isGain 10 = .ok (.invokestatic 96, 3) := by decide +kernel
theorem dL_isGain_13 : decode cL_isGain 13 = .ok (.ifCond .ne 7, 3) := by decide +kernel
theorem dL_isGain_16 : decode cL_isGain 16 = .ok (.iconst (-1), 1) := by decide +kernel
theorem dL_isGain_17 : decode cL_isGain 17 = .ok (.goto 11, 3) := by decide +kernel
theorem dL_isGain_20 : decode cL_isGain 20 = .ok (.iload_n 1, 1) := by decide +kernel
theorem dL_isGain_21 : decode cL_isGain 21 = .ok (.bipush 6, 2) := by decide +kernel
theorem dL_isGain_23 : decode cL_isGain 23 = .ok (.ishr, 1) := by decide +kernel
theorem dL_isGain_24 : decode cL_isGain 24 = .ok (.iconst 5, 1) := by decide +kernel
theorem dL_isGain_25 : decode cL_isGain 25 = .ok (.invokestatic 96, 3) := by decide +kernel
theorem dL_isGain_28 : decode cL_isGain 28 = .ok (.istore_n 3, 1) := by decide +kernel
theorem dL_isGain_29 : decode cL_isGain 29 = .ok (.iload_n 3, 1) := by decide +kernel
theorem dL_isGain_30 : decode cL_isGain 30 = .ok (.ifCond .lt 14, 3) := by decide +kernel
theorem dL_isGain_33 : decode cL_isGain 33 = .ok (.iload_n 1, 1) := by decide +kernel
theorem dL_isGain_34 : decode cL_isGain 34 = .ok (.bipush 9, 2) := by decide +kernel
theorem dL_isGain_36 : decode cL_isGain 36 = .ok (.ishr, 1) := by decide +kernel
theorem dL_isGain_37 : decode cL_isGain 37 = .ok (.iconst 2, 1) := by decide +kernel
theorem dL_isGain_38 : decode cL_isGain 38 = .ok (.invokestatic 96, 3) := by decide +kernel
theorem dL_isGain_41 : decode cL_isGain 41 = .ok (.ifCond .ne 7, 3) := by decide +kernel
theorem dL_isGain_44 : decode cL_isGain 44 = .ok (.iconst (-1), 1) := by decide +kernel
theorem dL_isGain_45 : decode cL_isGain 45 = .ok (.goto 11, 3) := by decide +kernel
theorem dL_isGain_48 : decode cL_isGain 48 = .ok (.iload_n 1, 1) := by decide +kernel
theorem dL_isGain_49 : decode cL_isGain 49 = .ok (.bipush 10, 2) := by decide +kernel
theorem dL_isGain_51 : decode cL_isGain 51 = .ok (.ishr, 1) := by decide +kernel
theorem dL_isGain_52 : decode cL_isGain 52 = .ok (.iconst 5, 1) := by decide +kernel
theorem dL_isGain_53 : decode cL_isGain 53 = .ok (.invokestatic 96, 3) := by decide +kernel
theorem dL_isGain_56 : decode cL_isGain 56 = .ok (.istore 4, 2) := by decide +kernel
theorem dL_isGain_58 : decode cL_isGain 58 = .ok (.aload_n 0, 1) := by decide +kernel
theorem dL_isGain_59 : decode cL_isGain 59 = .ok (.iload_n 2, 1) := by decide +kernel
theorem dL_isGain_60 : decode cL_isGain 60 = .ok (.iload_n 3, 1) := by decide +kernel
theorem dL_isGain_61 : decode cL_isGain 61 = .ok (.iload 4, 2) := by decide +kernel
theorem dL_isGain_63 : decode cL_isGain 63 = .ok (.iconst (-1), 1) := by decide +kernel
theorem dL_isGain_64 : decode cL_isGain 64 = .ok (.invokevirtual 85, 3) := by decide +kernel
theorem dL_isGain_67 : decode cL_isGain 67 = .ok (.istore 5, 2) := by decide +kernel
theorem dL_isGain_69 : decode cL_isGain 69 = .ok (.aload_n 0, 1) := by decide +kernel
theorem dL_isGain_70 : decode cL_isGain 70 = .ok (.iconst 4, 1) := by decide +kernel
theorem dL_isGain_71 : decode cL_isGain 71 = .ok (.invokevirtual 13, 3) := by decide +kernel
theorem dL_isGain_74 : decode cL_isGain 74 = .ok (.istore 6, 2) := by decide +kernel
theorem dL_isGain_76 : decode cL_isGain 76 = .ok (.aload_n 0, 1) := by decide +kernel
theorem dL_isGain_77 : decode cL_isGain 77 = .ok (.invokestatic 30, 3) := by decide +kernel
theorem dL_isGain_80 : decode cL_isGain 80 = .ok (.lstore 7, 2) := by decide +kernel
theorem dL_isGain_82 : decode cL_isGain 82 = .ok (.aload_n 0, 1) := by decide +kernel
theorem dL_isGain_83 : decode cL_isGain 83 = .ok (.bipush 8, 2) := by decide +kernel
theorem dL_isGain_85 : decode cL_isGain 85 = .ok (.invokevirtual 13, 3) := by decide +kernel
theorem dL_isGain_88 : decode cL_isGain 88 = .ok (.istore 9, 2) := by decide +kernel
theorem dL_isGain_90 : decode cL_isGain 90 = .ok (.aload_n 0, 1) := by decide +kernel
theorem dL_isGain_91 : decode cL_isGain 91 = .ok (.iload_n 2, 1) := by decide +kernel
theorem dL_isGain_92 : decode cL_isGain 92 = .ok (.iload_n 3, 1) := by decide +kernel
theorem dL_isGain_93 : decode cL_isGain 93 = .ok (.iload 4, 2) := by decide +kernel
theorem dL_isGain_95 : decode cL_isGain 95 = .ok (.iconst (-1), 1) := by decide +kernel
theorem dL_isGain_96 : decode cL_isGain 96 = .ok (.invokevirtual 48, 3) := by decide +kernel
theorem dL_isGain_99 : decode cL_isGain 99 = .ok (.istore 10, 2) := by decide +kernel
theorem dL_isGain_101 : decode cL_isGain 101 = .ok (.iload 10, 2) := by decide +kernel
theorem dL_isGain_103 : decode cL_isGain 103 = .ok (.ifCond .ge 46, 3) := by decide +kernel
theorem dL_isGain_106 : decode cL_isGain 106 = .ok (.aload_n 0, 1) := by decide +kernel
theorem dL_isGain_107 : decode cL_isGain 107 = .ok (.invokestatic 30, 3) := by decide +kernel
theorem dL_isGain_110 : decode cL_isGain 110 = .ok (.lload 7, 2) := by decide +kernel
theorem dL_isGain_112 : decode cL_isGain 112 = .ok (.lcmp, 1) := by decide +kernel
theorem dL_isGain_113 : decode cL_isGain 113 = .ok (.ifCond .ne 34, 3) := by decide +kernel
theorem dL_isGain_116 : decode cL_isGain 116 = .ok (.iload 10, 2) := by decide +kernel
theorem dL_isGain_118 : decode cL_isGain 118 = .ok (.bipush (-2), 2) := by decide +kernel
theorem dL_isGain_120 : decode cL_isGain 120 = .ok (.if_icmp .ne 7, 3) := by decide +kernel
theorem dL_isGain_123 : decode cL_isGain 123 = .ok (.iconst 1, 1) := by decide +kernel
theorem dL_isGain_124 : decode cL_isGain 124 = .ok (.goto 4, 3) := by decide +kernel
theorem dL_isGain_127 : decode cL_isGain 127 = .ok (.iconst 0, 1) := by decide +kernel
theorem dL_isGain_128 : decode cL_isGain 128 = .ok (.iload 5, 2) := by decide +kernel
theorem dL_isGain_130 : decode cL_isGain 130 = .ok (.bipush (-2), 2) := by decide +kernel
theorem dL_isGain_132 : decode cL_isGain 132 = .ok (.if_icmp .ne 7, 3) := by decide +kernel
theorem dL_isGain_135 : decode cL_isGain 135 = .ok (.iconst 1, 1) := by decide +kernel
theorem dL_isGain_136 : decode cL_isGain 136 = .ok (.goto 4, 3) := by decide +kernel
theorem dL_isGain_139 : decode cL_isGain 139 = .ok (.iconst 0, 1) := by decide +kernel
theorem dL_isGain_140 : decode cL_isGain 140 = .ok (.if_icmp .ne 7, 3) := by decide +kernel
theorem dL_isGain_143 : decode cL_isGain 143 = .ok (.iconst 1, 1) := by decide +kernel
theorem dL_isGain_144 : decode cL_isGain 144 = .ok (.goto 4, 3) := by decide +kernel
theorem dL_isGain_147 : decode cL_isGain 147 = .ok (.iconst 0, 1) := by decide +kernel
theorem dL_isGain_148 : decode cL_isGain 148 = .ok (.ireturn, 1) := by decide +kernel
theorem dL_isGain_149 : decode cL_isGain 149 = .ok (.iload 5, 2) := by decide +kernel
theorem dL_isGain_151 : decode cL_isGain 151 = .ok (.ifCond .le 49, 3) := by decide +kernel
theorem dL_isGain_154 : decode cL_isGain 154 = .ok (.aload_n 0, 1) := by decide +kernel
theorem dL_isGain_155 : decode cL_isGain 155 = .ok (.iconst 4, 1) := by decide +kernel
theorem dL_isGain_156 : decode cL_isGain 156 = .ok (.invokevirtual 13, 3) := by decide +kernel
theorem dL_isGain_159 : decode cL_isGain 159 = .ok (.iload 6, 2) := by decide +kernel
theorem dL_isGain_161 : decode cL_isGain 161 = .ok (.isub, 1) := by decide +kernel
theorem dL_isGain_162 : decode cL_isGain 162 = .ok (.bipush 100, 2) := by decide +kernel
theorem dL_isGain_164 : decode cL_isGain 164 = .ok (.iadd, 1) := by decide +kernel
theorem dL_isGain_165 : decode cL_isGain 165 = .ok (.iload 5, 2) := by decide +kernel
theorem dL_isGain_167 : decode cL_isGain 167 = .ok (.if_icmp .ne 33, 3) := by decide +kernel
theorem dL_isGain_170 : decode cL_isGain 170 = .ok (.iload 10, 2) := by decide +kernel
theorem dL_isGain_172 : decode cL_isGain 172 = .ok (.aload_n 0, 1) := by decide +kernel
theorem dL_isGain_173 : decode cL_isGain 173 = .ok (.iconst 2, 1) := by decide +kernel
theorem dL_isGain_174 : decode cL_isGain 174 = .ok (.invokevirtual 13, 3) := by decide +kernel
theorem dL_isGain_177 : decode cL_isGain 177 = .ok (.iconst 1, 1) := by decide +kernel
theorem dL_isGain_178 : decode cL_isGain 178 = .ok (.isub, 1) := by decide +kernel
theorem dL_isGain_179 : decode cL_isGain 179 = .ok (.if_icmp .ne 21, 3) := by decide +kernel
theorem dL_isGain_182 : decode cL_isGain 182 = .ok (.aload_n 0, 1) := by decide +kernel
theorem dL_isGain_183 : decode cL_isGain 183 = .ok (.iload_n 2, 1) := by decide +kernel
theorem dL_isGain_184 : decode cL_isGain 184 = .ok (.iload_n 3, 1) := by decide +kernel
theorem dL_isGain_185 : decode cL_isGain 185 = .ok (.iload 4, 2) := by decide +kernel
theorem dL_isGain_187 : decode cL_isGain 187 = .ok (.iconst (-1), 1) := by decide +kernel
theorem dL_isGain_188 : decode cL_isGain 188 = .ok (.invokevirtual 85, 3) := by decide +kernel
theorem dL_isGain_191 : decode cL_isGain 191 = .ok (.bipush (-2), 2) := by decide +kernel
theorem dL_isGain_193 : decode cL_isGain 193 = .ok (.if_icmp .ne 7, 3) := by decide +kernel
theorem dL_isGain_196 : decode cL_isGain 196 = .ok (.iconst 1, 1) := by decide +kernel
theorem dL_isGain_197 : decode cL_isGain 197 = .ok (.goto 4, 3) := by decide +kernel
theorem dL_isGain_200 : decode cL_isGain 200 = .ok (.iconst 0, 1) := by decide +kernel
theorem dL_isGain_201 : decode cL_isGain 201 = .ok (.istore 11, 2) := by decide +kernel
theorem dL_isGain_203 : decode cL_isGain 203 = .ok (.iload 11, 2) := by decide +kernel
theorem dL_isGain_205 : decode cL_isGain 205 = .ok (.ifCond .eq 36, 3) := by decide +kernel
theorem dL_isGain_208 : decode cL_isGain 208 = .ok (.aload_n 0, 1) := by decide +kernel
theorem dL_isGain_209 : decode cL_isGain 209 = .ok (.invokevirtual 99, 3) := by decide +kernel
theorem dL_isGain_212 : decode cL_isGain 212 = .ok (.iload 9, 2) := by decide +kernel
theorem dL_isGain_214 : decode cL_isGain 214 = .ok (.iconst 5, 1) := by decide +kernel
theorem dL_isGain_215 : decode cL_isGain 215 = .ok (.if_icmp .ge 8, 3) := by decide +kernel
theorem dL_isGain_218 : decode cL_isGain 218 = .ok (.iload 9, 2) := by decide +kernel
theorem dL_isGain_220 : decode cL_isGain 220 = .ok (.goto 4, 3) := by decide +kernel
theorem dL_isGain_223 : decode cL_isGain 223 = .ok (.iconst 4, 1) := by decide +kernel
theorem dL_isGain_224 : decode cL_isGain 224 = .ok (.if_icmp .ne 17, 3) := by decide +kernel
theorem dL_isGain_227 : decode cL_isGain 227 = .ok (.aload_n 0, 1) := by decide +kernel
theorem dL_isGain_228 : decode cL_isGain 228 = .ok (.invokestatic 30, 3) := by decide +kernel
theorem dL_isGain_231 : decode cL_isGain 231 = .ok (.lload 7, 2) := by decide +kernel
theorem dL_isGain_233 : decode cL_isGain 233 = .ok (.lcmp, 1) := by decide +kernel
theorem dL_isGain_234 : decode cL_isGain 234 = .ok (.ifCond .ne 7, 3) := by decide +kernel
theorem dL_isGain_237 : decode cL_isGain 237 = .ok (.iconst 1, 1) := by decide +kernel
theorem dL_isGain_238 : decode cL_isGain 238 = .ok (.goto 4, 3) := by decide +kernel
theorem dL_isGain_241 : decode cL_isGain 241 = .ok (.iconst 0, 1) := by decide +kernel
theorem dL_isGain_242 : decode cL_isGain 242 = .ok (.ireturn, 1) := by decide +kernel
theorem dL_isGreediest_0 : decode cL_isGreediest 0 = .ok (.aload_n 0, 1) := by decide +kernel
theorem dL_isGreediest_1 : decode cL_isGreediest 1 = .ok (.invokevirtual 103, 3) := by decide +kernel
theorem dL_isGreediest_4 : decode cL_isGreediest 4 = .ok (.istore_n 1, 1) := by decide +kernel
theorem dL_isGreediest_5 : decode cL_isGreediest 5 = .ok (.aload_n 0, 1) := by decide +kernel
theorem dL_isGreediest_6 : decode cL_isGreediest 6 = .ok (.iconst 2, 1) := by decide +kernel
theorem dL_isGreediest_7 : decode cL_isGreediest 7 = .ok (.invokevirtual 13, 3) := by decide +kernel
theorem dL_isGreediest_10 : decode cL_isGreediest 10 = .ok (.ifCond .ne 15, 3) := by decide +kernel
theorem dL_isGreediest_13 : decode cL_isGreediest 13 = .ok (.iload_n 1, 1) := by decide +kernel
theorem dL_isGreediest_14 : decode cL_isGreediest 14 = .ok (.bipush (-99), 2) := by decide +kernel
theorem dL_isGreediest_16 : decode cL_isGreediest 16 = .ok (.if_icmp .ne 7, 3) := by decide +kernel
theorem dL_isGreediest_19 : decode cL_isGreediest 19 = .ok (.iconst 1, 1) := by decide +kernel
theorem dL_isGreediest_20 : decode cL_isGreediest 20 = .ok (.goto 4, 3) := by decide +kernel
theorem dL_isGreediest_23 : decode cL_isGreediest 23 = .ok (.iconst 0, 1) := by decide +kernel
theorem dL_isGreediest_24 : decode cL_isGreediest 24 = .ok (.ireturn, 1) := by decide +kernel
theorem dL_isGreediest_25 : decode cL_isGreediest 25 = .ok (.aload_n 0, 1) := by decide +kernel
theorem dL_isGreediest_26 : decode cL_isGreediest 26 = .ok (.invokestatic 30, 3) := by decide +kernel
theorem dL_isGreediest_29 : decode cL_isGreediest 29 = .ok (.lstore_n 2, 1) := by decide +kernel
theorem dL_isGreediest_30 : decode cL_isGreediest 30 = .ok (.iconst (-1), 1) := by decide +kernel
theorem dL_isGreediest_31 : decode cL_isGreediest 31 = .ok (.istore 4, 2) := by decide +kernel
theorem dL_isGreediest_33 : decode cL_isGreediest 33 = .ok (.bipush (-99), 2) := by decide +kernel
theorem dL_isGreediest_35 : decode cL_isGreediest 35 = .ok (.istore 5, 2) := by decide +kernel
theorem dL_isGreediest_37 : decode cL_isGreediest 37 = .ok (.iconst 1, 1) := by decide +kernel
theorem dL_isGreediest_38 : decode cL_isGreediest 38 = .ok (.istore 6, 2) := by decide +kernel
theorem dL_isGreediest_40 : decode cL_isGreediest 40 = .ok (.iconst 0, 1) := by decide +kernel
theorem dL_isGreediest_41 : decode cL_isGreediest 41 = .ok (.istore 7, 2) := by decide +kernel
theorem dL_isGreediest_43 : decode cL_isGreediest 43 = .ok (.iload 7, 2) := by decide +kernel
theorem dL_isGreediest_45 : decode cL_isGreediest 45 = .ok (.aload_n 0, 1) := by decide +kernel
theorem dL_isGreediest_46 : decode cL_isGreediest 46 = .ok (.iconst 2, 1) := by decide +kernel
theorem dL_isGreediest_47 : decode cL_isGreediest 47 = .ok (.invokevirtual 13, 3) := by decide +kernel
theorem dL_isGreediest_50 : decode cL_isGreediest 50 = .ok (.if_icmp .ge 93, 3) := by decide +kernel
theorem dL_isGreediest_53 : decode cL_isGreediest 53 = .ok (.iload 6, 2) := by decide +kernel
theorem dL_isGreediest_55 : decode cL_isGreediest 55 = .ok (.ifCond .eq 88, 3) := by decide +kernel
theorem dL_isGreediest_58 : decode cL_isGreediest 58 = .ok (.aload_n 0, 1) := by decide +kernel
theorem dL_isGreediest_59 : decode cL_isGreediest 59 = .ok (.iload 7, 2) := by decide +kernel
theorem dL_isGreediest_61 : decode cL_isGreediest 61 = .ok (.invokevirtual 52, 3) := by decide +kernel
theorem dL_isGreediest_64 : decode cL_isGreediest 64 = .ok (.aload_n 0, 1) := by decide +kernel
theorem dL_isGreediest_65 : decode cL_isGreediest 65 = .ok (.iconst 2, 1) := by decide +kernel
theorem dL_isGreediest_66 : decode cL_isGreediest 66 = .ok (.invokevirtual 13, 3) := by decide +kernel
theorem dL_isGreediest_69 : decode cL_isGreediest 69 = .ok (.if_icmp .ne 7, 3) := by decide +kernel
theorem dL_isGreediest_72 : decode cL_isGreediest 72 = .ok (.iconst 1, 1) := by decide +kernel
theorem dL_isGreediest_73 : decode cL_isGreediest 73 = .ok (.goto 4, 3) := by decide +kernel
theorem dL_isGreediest_76 : decode cL_isGreediest 76 = .ok (.iconst 0, 1) := by decide +kernel
theorem dL_isGreediest_77 : decode cL_isGreediest 77 = .ok (.istore 6, 2) := by decide +kernel
theorem dL_isGreediest_79 : decode cL_isGreediest 79 = .ok (.aload_n 0, 1) := by decide +kernel
theorem dL_isGreediest_80 : decode cL_isGreediest 80 = .ok (.iconst 4, 1) := by decide +kernel
theorem dL_isGreediest_81 : decode cL_isGreediest 81 = .ok (.invokevirtual 13, 3) := by decide +kernel
theorem dL_isGreediest_84 : decode cL_isGreediest 84 = .ok (.istore 8, 2) := by decide +kernel
theorem dL_isGreediest_86 : decode cL_isGreediest 86 = .ok (.iload 8, 2) := by decide +kernel
theorem dL_isGreediest_88 : decode cL_isGreediest 88 = .ok (.iload 4, 2) := by decide +kernel
theorem dL_isGreediest_90 : decode cL_isGreediest 90 = .ok (.if_icmp .le 8, 3) := by decide +kernel
theorem dL_isGreediest_93 : decode cL_isGreediest 93 = .ok (.iload 7, 2) := by decide +kernel
theorem dL_isGreediest_95 : decode cL_isGreediest 95 = .ok (.goto 5, 3) := by decide +kernel
theorem dL_isGreediest_98 : decode cL_isGreediest 98 = .ok (.iload 5, 2) := by decide +kernel
theorem dL_isGreediest_100 : decode cL_isGreediest 100 = .ok (.istore 5, 2) := by decide +kernel
theorem dL_isGreediest_102 : decode cL_isGreediest 102 = .ok (.iload 8, 2) := by decide +kernel
theorem dL_isGreediest_104 : decode cL_isGreediest 104 = .ok (.iload 4, 2) := by decide +kernel
theorem dL_isGreediest_106 : decode cL_isGreediest 106 = .ok (.if_icmp .le 8, 3) := by decide +kernel
theorem dL_isGreediest_109 : decode cL_isGreediest 109 = .ok (.iload 8, 2) := by decide +kernel
theorem dL_isGreediest_111 : decode cL_isGreediest 111 = .ok (.goto 5, 3) := by decide +kernel
theorem dL_isGreediest_114 : decode cL_isGreediest 114 = .ok (.iload 4, 2) := by decide +kernel
theorem dL_isGreediest_116 : decode cL_isGreediest 116 = .ok (.istore 4, 2) := by decide +kernel
theorem dL_isGreediest_118 : decode cL_isGreediest 118 = .ok (.iload 6, 2) := by decide +kernel
theorem dL_isGreediest_120 : decode cL_isGreediest 120 = .ok (.ifCond .eq 14, 3) := by decide +kernel
theorem dL_isGreediest_123 : decode cL_isGreediest 123 = .ok (.aload_n 0, 1) := by decide +kernel
theorem dL_isGreediest_124 : decode cL_isGreediest 124 = .ok (.invokevirtual 99, 3) := by decide +kernel
theorem dL_isGreediest_127 : decode cL_isGreediest 127 = .ok (.ifCond .lt 7, 3) := by decide +kernel
theorem dL_isGreediest_130 : decode cL_isGreediest 130 = .ok (.iconst 1, 1) := by decide +kernel
theorem dL_isGreediest_131 : decode cL_isGreediest 131 = .ok (.goto 4, 3) := by decide +kernel
theorem dL_isGreediest_134 : decode cL_isGreediest 134 = .ok (.iconst 0, 1) := by decide +kernel
theorem dL_isGreediest_135 : decode cL_isGreediest 135 = .ok (.istore 6, 2) := by decide +kernel
theorem dL_isGreediest_137 : decode cL_isGreediest 137 = .ok (.iinc 7 1, 3) := by decide +kernel
theorem dL_isGreediest_140 : decode cL_isGreediest 140 = .ok (.goto (-97), 3) := by decide +kernel
theorem dL_isGreediest_143 : decode cL_isGreediest 143 = .ok (.iload 6, 2) := by decide +kernel
theorem dL_isGreediest_145 : decode cL_isGreediest 145 = .ok (.ifCond .eq 22, 3) := by decide +kernel
theorem dL_isGreediest_148 : decode cL_isGreediest 148 = .ok (.iload 5, 2) := by decide +kernel
theorem dL_isGreediest_150 : decode cL_isGreediest 150 = .ok (.iload_n 1, 1) := by decide +kernel
theorem dL_isGreediest_151 : decode cL_isGreediest 151 = .ok (.if_icmp .ne 16, 3) := by decide +kernel
theorem dL_isGreediest_154 : decode cL_isGreediest 154 = .ok (.aload_n 0, 1) := by decide +kernel
theorem dL_isGreediest_155 : decode cL_isGreediest 155 = .ok (.invokestatic 30, 3) := by decide +kernel
theorem dL_isGreediest_158 : decode cL_isGreediest 158 = .ok (.lload_n 2, 1) := by decide +kernel
theorem dL_isGreediest_159 : decode cL_isGreediest 159 = .ok (.lcmp, 1) := by decide +kernel
theorem dL_isGreediest_160 : decode cL_isGreediest 160 = .ok (.ifCond .ne 7, 3) := by decide +kernel
theorem dL_isGreediest_163 : decode cL_isGreediest 163 = .ok (.iconst 1, 1) := by decide +kernel
theorem dL_isGreediest_164 : decode cL_isGreediest 164 = .ok (.goto 4, 3) := by decide +kernel
theorem dL_isGreediest_167 : decode cL_isGreediest 167 = .ok (.iconst 0, 1) := by decide +kernel
theorem dL_isGreediest_168 : decode cL_isGreediest 168 = .ok (.ireturn, 1) := by decide +kernel
theorem dL_acts_0 : decode cL_acts 0 = .ok (.iload_n 2, 1) := by decide +kernel
theorem dL_acts_1 : decode cL_acts 1 = .ok (.iconst 2, 1) := by decide +kernel
theorem dL_acts_2 : decode cL_acts 2 = .ok (.invokestatic 96, 3) := by decide +kernel
theorem dL_acts_5 : decode cL_acts 5 = .ok (.iconst 3, 1) := by decide +kernel
theorem dL_acts_6 : decode cL_acts 6 = .ok (.imul, 1) := by decide +kernel
theorem dL_acts_7 : decode cL_acts 7 = .ok (.istore_n 3, 1) := by decide +kernel
theorem dL_acts_8 : decode cL_acts 8 = .ok (.aload_n 0, 1) := by decide +kernel
theorem dL_acts_9 : decode cL_acts 9 = .ok (.iload_n 3, 1) := by decide +kernel
theorem dL_acts_10 : decode cL_acts 10 = .ok (.invokestatic 88, 3) := by decide +kernel
theorem dL_acts_13 : decode cL_acts 13 = .ok (.istore 4, 2) := by decide +kernel
theorem dL_acts_15 : decode cL_acts 15 = .ok (.iload_n 2, 1) := by decide +kernel
theorem dL_acts_16 : decode cL_acts 16 = .ok (.iconst 3, 1) := by decide +kernel
theorem dL_acts_17 : decode cL_acts 17 = .ok (.ishr, 1) := by decide +kernel
theorem dL_acts_18 : decode cL_acts 18 = .ok (.iconst 5, 1) := by decide +kernel
theorem dL_acts_19 : decode cL_acts 19 = .ok (.invokestatic 96, 3) := by decide +kernel
theorem dL_acts_22 : decode cL_acts 22 = .ok (.istore 5, 2) := by decide +kernel
theorem dL_acts_24 : decode cL_acts 24 = .ok (.iload_n 1, 1) := by decide +kernel
theorem dL_acts_25 : decode cL_acts 25 = .ok (.bipush 18, 2) := by decide +kernel
theorem dL_acts_27 : decode cL_acts 27 = .ok (.invokestatic 96, 3) := by decide +kernel
theorem dL_acts_30 : decode cL_acts 30 = .ok (.tableswitch 240 0 12 #[66, 66, 66, 98, 111, 129, 129, 145, 180, 196, 215, 225, 235], 66) := by decide +kernel
theorem dL_acts_96 : decode cL_acts 96 = .ok (.aload_n 0, 1) := by decide +kernel
theorem dL_acts_97 : decode cL_acts 97 = .ok (.iload 5, 2) := by decide +kernel
theorem dL_acts_99 : decode cL_acts 99 = .ok (.iload_n 2, 1) := by decide +kernel
theorem dL_acts_100 : decode cL_acts 100 = .ok (.bipush 6, 2) := by decide +kernel
theorem dL_acts_102 : decode cL_acts 102 = .ok (.ishr, 1) := by decide +kernel
theorem dL_acts_103 : decode cL_acts 103 = .ok (.iconst 2, 1) := by decide +kernel
theorem dL_acts_104 : decode cL_acts 104 = .ok (.invokestatic 96, 3) := by decide +kernel
theorem dL_acts_107 : decode cL_acts 107 = .ok (.ifCond .ne 7, 3) := by decide +kernel
theorem dL_acts_110 : decode cL_acts 110 = .ok (.iconst (-1), 1) := by decide +kernel
theorem dL_acts_111 : decode cL_acts 111 = .ok (.goto 11, 3) := by decide +kernel
theorem dL_acts_114 : decode cL_acts 114 = .ok (.iload_n 2, 1) := by decide +kernel
theorem dL_acts_115 : decode cL_acts 115 = .ok (.bipush 7, 2) := by decide +kernel
theorem dL_acts_117 : decode cL_acts 117 = .ok (.ishr, 1) := by decide +kernel
theorem dL_acts_118 : decode cL_acts 118 = .ok (.iconst 5, 1) := by decide +kernel
theorem dL_acts_119 : decode cL_acts 119 = .ok (.invokestatic 96, 3) := by decide +kernel
theorem dL_acts_122 : decode cL_acts 122 = .ok (.iconst (-1), 1) := by decide +kernel
theorem dL_acts_123 : decode cL_acts 123 = .ok (.iconst (-1), 1) := by decide +kernel
theorem dL_acts_124 : decode cL_acts 124 = .ok (.invokevirtual 48, 3) := by decide +kernel
theorem dL_acts_127 : decode cL_acts 127 = .ok (.ireturn, 1) := by decide +kernel
theorem dL_acts_128 : decode cL_acts 128 = .ok (.aload_n 0, 1) := by decide +kernel
theorem dL_acts_129 : decode cL_acts 129 = .ok (.iload_n 2, 1) := by decide +kernel
theorem dL_acts_130 : decode cL_acts 130 = .ok (.iconst 2, 1) := by decide +kernel
theorem dL_acts_131 : decode cL_acts 131 = .ok (.ishr, 1) := by decide +kernel
theorem dL_acts_132 : decode cL_acts 132 = .ok (.bipush 13, 2) := by decide +kernel
theorem dL_acts_134 : decode cL_acts 134 = .ok (.invokestatic 96, 3) := by decide +kernel
theorem dL_acts_137 : decode cL_acts 137 = .ok (.invokevirtual 52, 3) := by decide +kernel
theorem dL_acts_140 : decode cL_acts 140 = .ok (.ireturn, 1) := by decide +kernel
theorem dL_acts_141 : decode cL_acts 141 = .ok (.aload_n 0, 1) := by decide +kernel
theorem dL_acts_142 : decode cL_acts 142 = .ok (.iload_n 2, 1) := by decide +kernel
theorem dL_acts_143 : decode cL_acts 143 = .ok (.iconst 2, 1) := by decide +kernel
theorem dL_acts_144 : decode cL_acts 144 = .ok (.ishr, 1) := by decide +kernel
theorem dL_acts_145 : decode cL_acts 145 = .ok (.bipush 8, 2) := by decide +kernel
theorem dL_acts_147 : decode cL_acts 147 = .ok (.invokestatic 96, 3) := by decide +kernel
theorem dL_acts_150 : decode cL_acts 150 = .ok (.iload_n 2, 1) := by decide +kernel
theorem dL_acts_151 : decode cL_acts 151 = .ok (.iconst 2, 1) := by decide +kernel
theorem dL_acts_152 : decode cL_acts 152 = .ok (.invokestatic 96, 3) := by decide +kernel
theorem dL_acts_155 : decode cL_acts 155 = .ok (.invokevirtual 55, 3) := by decide +kernel
theorem dL_acts_158 : decode cL_acts 158 = .ok (.ireturn, 1) := by decide +kernel
theorem dL_acts_159 : decode cL_acts 159 = .ok (.aload_n 0, 1) := by decide +kernel
theorem dL_acts_160 : decode cL_acts 160 = .ok (.iload 5, 2) := by decide +kernel
theorem dL_acts_162 : decode cL_acts 162 = .ok (.iload_n 2, 1) := by decide +kernel
theorem dL_acts_163 : decode cL_acts 163 = .ok (.bipush 6, 2) := by decide +kernel
theorem dL_acts_165 : decode cL_acts 165 = .ok (.ishr, 1) := by decide +kernel
theorem dL_acts_166 : decode cL_acts 166 = .ok (.bipush 6, 2) := by decide +kernel
theorem dL_acts_168 : decode cL_acts 168 = .ok (.invokestatic 96, 3) := by decide +kernel
theorem dL_acts_171 : decode cL_acts 171 = .ok (.invokevirtual 58, 3) := by decide +kernel
theorem dL_acts_174 : decode cL_acts 174 = .ok (.ireturn, 1) := by decide +kernel
theorem dL_acts_175 : decode cL_acts 175 = .ok (.aload_n 0, 1) := by decide +kernel
theorem dL_acts_176 : decode cL_acts 176 = .ok (.iload_n 3, 1) := by decide +kernel
theorem dL_acts_177 : decode cL_acts 177 = .ok (.iload_n 2, 1) := by decide +kernel
theorem dL_acts_178 : decode cL_acts 178 = .ok (.iconst 4, 1) := by decide +kernel
theorem dL_acts_179 : decode cL_acts 179 = .ok (.ishr, 1) := by decide +kernel
theorem dL_acts_180 : decode cL_acts 180 = .ok (.iload 4, 2) := by decide +kernel
theorem dL_acts_182 : decode cL_acts 182 = .ok (.iconst 1, 1) := by decide +kernel
theorem dL_acts_183 : decode cL_acts 183 = .ok (.iadd, 1) := by decide +kernel
theorem dL_acts_184 : decode cL_acts 184 = .ok (.invokestatic 96, 3) := by decide +kernel
theorem dL_acts_187 : decode cL_acts 187 = .ok (.iload_n 2, 1) := by decide +kernel
theorem dL_acts_188 : decode cL_acts 188 = .ok (.iconst 4, 1) := by decide +kernel
theorem dL_acts_189 : decode cL_acts 189 = .ok (.ishr, 1) := by decide +kernel
theorem dL_acts_190 : decode cL_acts 190 = .ok (.iload 4, 2) := by decide +kernel
theorem dL_acts_192 : decode cL_acts 192 = .ok (.iconst 1, 1) := by decide +kernel
theorem dL_acts_193 : decode cL_acts 193 = .ok (.iadd, 1) := by decide +kernel
theorem dL_acts_194 : decode cL_acts 194 = .ok (.invokestatic 96, 3) := by decide +kernel
theorem dL_acts_197 : decode cL_acts 197 = .ok (.iload_n 2, 1) := by decide +kernel
theorem dL_acts_198 : decode cL_acts 198 = .ok (.bipush 9, 2) := by decide +kernel
theorem dL_acts_200 : decode cL_acts 200 = .ok (.ishr, 1) := by decide +kernel
theorem dL_acts_201 : decode cL_acts 201 = .ok (.iconst 2, 1) := by decide +kernel
theorem dL_acts_202 : decode cL_acts 202 = .ok (.invokestatic 96, 3) := by decide +kernel
theorem dL_acts_205 : decode cL_acts 205 = .ok (.iadd, 1) := by decide +kernel
theorem dL_acts_206 : decode cL_acts 206 = .ok (.invokevirtual 39, 3) := by decide +kernel
theorem dL_acts_209 : decode cL_acts 209 = .ok (.ireturn, 1) := by decide +kernel
theorem dL_acts_210 : decode cL_acts 210 = .ok (.aload_n 0, 1) := by decide +kernel
theorem dL_acts_211 : decode cL_acts 211 = .ok (.iload 5, 2) := by decide +kernel
theorem dL_acts_213 : decode cL_acts 213 = .ok (.iload_n 2, 1) := by decide +kernel
theorem dL_acts_214 : decode cL_acts 214 = .ok (.bipush 6, 2) := by decide +kernel
theorem dL_acts_216 : decode cL_acts 216 = .ok (.ishr, 1) := by decide +kernel
theorem dL_acts_217 : decode cL_acts 217 = .ok (.bipush 6, 2) := by decide +kernel
theorem dL_acts_219 : decode cL_acts 219 = .ok (.invokestatic 96, 3) := by decide +kernel
theorem dL_acts_222 : decode cL_acts 222 = .ok (.invokevirtual 42, 3) := by decide +kernel
theorem dL_acts_225 : decode cL_acts 225 = .ok (.ireturn, 1) := by decide +kernel
theorem dL_acts_226 : decode cL_acts 226 = .ok (.aload_n 0, 1) := by decide +kernel
theorem dL_acts_227 : decode cL_acts 227 = .ok (.iload_n 2, 1) := by decide +kernel
theorem dL_acts_228 : decode cL_acts 228 = .ok (.bipush 6, 2) := by decide +kernel
theorem dL_acts_230 : decode cL_acts 230 = .ok (.invokestatic 96, 3) := by decide +kernel
theorem dL_acts_233 : decode cL_acts 233 = .ok (.iload_n 2, 1) := by decide +kernel
theorem dL_acts_234 : decode cL_acts 234 = .ok (.iconst 3, 1) := by decide +kernel
theorem dL_acts_235 : decode cL_acts 235 = .ok (.ishr, 1) := by decide +kernel
theorem dL_acts_236 : decode cL_acts 236 = .ok (.bipush 6, 2) := by decide +kernel
theorem dL_acts_238 : decode cL_acts 238 = .ok (.invokestatic 96, 3) := by decide +kernel
theorem dL_acts_241 : decode cL_acts 241 = .ok (.invokevirtual 45, 3) := by decide +kernel
theorem dL_acts_244 : decode cL_acts 244 = .ok (.ireturn, 1) := by decide +kernel
theorem dL_acts_245 : decode cL_acts 245 = .ok (.aload_n 0, 1) := by decide +kernel
theorem dL_acts_246 : decode cL_acts 246 = .ok (.iload_n 2, 1) := by decide +kernel
theorem dL_acts_247 : decode cL_acts 247 = .ok (.iconst 2, 1) := by decide +kernel
theorem dL_acts_248 : decode cL_acts 248 = .ok (.invokestatic 96, 3) := by decide +kernel
theorem dL_acts_251 : decode cL_acts 251 = .ok (.invokevirtual 61, 3) := by decide +kernel
theorem dL_acts_254 : decode cL_acts 254 = .ok (.ireturn, 1) := by decide +kernel
theorem dL_acts_255 : decode cL_acts 255 = .ok (.aload_n 0, 1) := by decide +kernel
theorem dL_acts_256 : decode cL_acts 256 = .ok (.iload_n 2, 1) := by decide +kernel
theorem dL_acts_257 : decode cL_acts 257 = .ok (.iconst 2, 1) := by decide +kernel
theorem dL_acts_258 : decode cL_acts 258 = .ok (.invokestatic 96, 3) := by decide +kernel
theorem dL_acts_261 : decode cL_acts 261 = .ok (.invokevirtual 64, 3) := by decide +kernel
theorem dL_acts_264 : decode cL_acts 264 = .ok (.ireturn, 1) := by decide +kernel
theorem dL_acts_265 : decode cL_acts 265 = .ok (.aload_n 0, 1) := by decide +kernel
theorem dL_acts_266 : decode cL_acts 266 = .ok (.invokevirtual 99, 3) := by decide +kernel
theorem dL_acts_269 : decode cL_acts 269 = .ok (.ireturn, 1) := by decide +kernel
theorem dL_acts_270 : decode cL_acts 270 = .ok (.aload_n 0, 1) := by decide +kernel
theorem dL_acts_271 : decode cL_acts 271 = .ok (.iload_n 3, 1) := by decide +kernel
theorem dL_acts_272 : decode cL_acts 272 = .ok (.iload_n 2, 1) := by decide +kernel
theorem dL_acts_273 : decode cL_acts 273 = .ok (.iconst 4, 1) := by decide +kernel
theorem dL_acts_274 : decode cL_acts 274 = .ok (.ishr, 1) := by decide +kernel
theorem dL_acts_275 : decode cL_acts 275 = .ok (.iload 4, 2) := by decide +kernel
theorem dL_acts_277 : decode cL_acts 277 = .ok (.iconst 1, 1) := by decide +kernel
theorem dL_acts_278 : decode cL_acts 278 = .ok (.iadd, 1) := by decide +kernel
theorem dL_acts_279 : decode cL_acts 279 = .ok (.invokestatic 96, 3) := by decide +kernel
theorem dL_acts_282 : decode cL_acts 282 = .ok (.iload 5, 2) := by decide +kernel
theorem dL_acts_284 : decode cL_acts 284 = .ok (.invokevirtual 36, 3) := by decide +kernel
theorem dL_acts_287 : decode cL_acts 287 = .ok (.ireturn, 1) := by decide +kernel
theorem dL_law_0 : decode cL_law 0 = .ok (.new 14, 3) := by decide +kernel
theorem dL_law_3 : decode cL_law 3 = .ok (.dup, 1) := by decide +kernel
theorem dL_law_4 : decode cL_law 4 = .ok (.invokespecial 106, 3) := by decide +kernel
theorem dL_law_7 : decode cL_law 7 = .ok (.astore_n 1, 1) := by decide +kernel
theorem dL_law_8 : decode cL_law 8 = .ok (.aload_n 1, 1) := by decide +kernel
theorem dL_law_9 : decode cL_law 9 = .ok (.invokevirtual 99, 3) := by decide +kernel
theorem dL_law_12 : decode cL_law 12 = .ok (.bipush (-2), 2) := by decide +kernel
theorem dL_law_14 : decode cL_law 14 = .ok (.if_icmp .ne 28, 3) := by decide +kernel
theorem dL_law_17 : decode cL_law 17 = .ok (.aload_n 1, 1) := by decide +kernel
theorem dL_law_18 : decode cL_law 18 = .ok (.invokestatic 107, 3) := by decide +kernel
theorem dL_law_21 : decode cL_law 21 = .ok (.ifCond .eq 21, 3) := by decide +kernel
theorem dL_law_24 : decode cL_law 24 = .ok (.aload_n 1, 1) := by decide +kernel
theorem dL_law_25 : decode cL_law 25 = .ok (.invokestatic 111, 3) := by decide +kernel
theorem dL_law_28 : decode cL_law 28 = .ok (.ifCond .eq 14, 3) := by decide +kernel
theorem dL_law_31 : decode cL_law 31 = .ok (.aload_n 1, 1) := by decide +kernel
theorem dL_law_32 : decode cL_law 32 = .ok (.invokestatic 114, 3) := by decide +kernel
theorem dL_law_35 : decode cL_law 35 = .ok (.ifCond .eq 7, 3) := by decide +kernel
theorem dL_law_38 : decode cL_law 38 = .ok (.iconst 1, 1) := by decide +kernel
theorem dL_law_39 : decode cL_law 39 = .ok (.goto 4, 3) := by decide +kernel
theorem dL_law_42 : decode cL_law 42 = .ok (.iconst 0, 1) := by decide +kernel
theorem dL_law_43 : decode cL_law 43 = .ok (.istore_n 2, 1) := by decide +kernel
theorem dL_law_44 : decode cL_law 44 = .ok (.iconst 0, 1) := by decide +kernel
theorem dL_law_45 : decode cL_law 45 = .ok (.istore_n 3, 1) := by decide +kernel
theorem dL_law_46 : decode cL_law 46 = .ok (.iload_n 3, 1) := by decide +kernel
theorem dL_law_47 : decode cL_law 47 = .ok (.bipush 50, 2) := by decide +kernel
theorem dL_law_49 : decode cL_law 49 = .ok (.if_icmp .ge 282, 3) := by decide +kernel
theorem dL_law_52 : decode cL_law 52 = .ok (.iload_n 2, 1) := by decide +kernel
theorem dL_law_53 : decode cL_law 53 = .ok (.ifCond .eq 278, 3) := by decide +kernel
theorem dL_law_56 : decode cL_law 56 = .ok (.aload_n 0, 1) := by decide +kernel
theorem dL_law_57 : decode cL_law 57 = .ok (.iconst 2, 1) := by decide +kernel
theorem dL_law_58 : decode cL_law 58 = .ok (.iload_n 3, 1) := by decide +kernel
theorem dL_law_59 : decode cL_law 59 = .ok (.imul, 1) := by decide +kernel
theorem dL_law_60 : decode cL_law 60 = .ok (.invokestatic 117, 3) := by decide +kernel
theorem dL_law_63 : decode cL_law 63 = .ok (.istore 4, 2) := by decide +kernel
theorem dL_law_65 : decode cL_law 65 = .ok (.aload_n 0, 1) := by decide +kernel
theorem dL_law_66 : decode cL_law 66 = .ok (.iconst 2, 1) := by decide +kernel
theorem dL_law_67 : decode cL_law 67 = .ok (.iload_n 3, 1) := by decide +kernel
theorem dL_law_68 : decode cL_law 68 = .ok (.imul, 1) := by decide +kernel
theorem dL_law_69 : decode cL_law 69 = .ok (.iconst 1, 1) := by decide +kernel
theorem dL_law_70 : decode cL_law 70 = .ok (.iadd, 1) := by decide +kernel
theorem dL_law_71 : decode cL_law 71 = .ok (.invokestatic 117, 3) := by decide +kernel
theorem dL_law_74 : decode cL_law 74 = .ok (.istore 5, 2) := by decide +kernel
theorem dL_law_76 : decode cL_law 76 = .ok (.aload_n 1, 1) := by decide +kernel
theorem dL_law_77 : decode cL_law 77 = .ok (.invokestatic 30, 3) := by decide +kernel
theorem dL_law_80 : decode cL_law 80 = .ok (.lstore 6, 2) := by decide +kernel
theorem dL_law_82 : decode cL_law 82 = .ok (.aload_n 1, 1) := by decide +kernel
theorem dL_law_83 : decode cL_law 83 = .ok (.bipush 8, 2) := by decide +kernel
theorem dL_law_85 : decode cL_law 85 = .ok (.invokevirtual 13, 3) := by decide +kernel
theorem dL_law_88 : decode cL_law 88 = .ok (.istore 8, 2) := by decide +kernel
theorem dL_law_90 : decode cL_law 90 = .ok (.iload_n 3, 1) := by decide +kernel
theorem dL_law_91 : decode cL_law 91 = .ok (.bipush 10, 2) := by decide +kernel
theorem dL_law_93 : decode cL_law 93 = .ok (.if_icmp .lt 15, 3) := by decide +kernel
theorem dL_law_96 : decode cL_law 96 = .ok (.iload_n 3, 1) := by decide +kernel
theorem dL_law_97 : decode cL_law 97 = .ok (.bipush 18, 2) := by decide +kernel
theorem dL_law_99 : decode cL_law 99 = .ok (.if_icmp .lt 27, 3) := by decide +kernel
theorem dL_law_102 : decode cL_law 102 = .ok (.iload_n 3, 1) := by decide +kernel
theorem dL_law_103 : decode cL_law 103 = .ok (.bipush 23, 2) := by decide +kernel
theorem dL_law_105 : decode cL_law 105 = .ok (.if_icmp .ge 21, 3) := by decide +kernel
theorem dL_law_108 : decode cL_law 108 = .ok (.bipush 18, 2) := by decide +kernel
theorem dL_law_110 : decode cL_law 110 = .ok (.iload 4, 2) := by decide +kernel
theorem dL_law_112 : decode cL_law 112 = .ok (.iconst 5, 1) := by decide +kernel
theorem dL_law_113 : decode cL_law 113 = .ok (.ishr, 1) := by decide +kernel
theorem dL_law_114 : decode cL_law 114 = .ok (.ldc 121, 2) := by decide +kernel
theorem dL_law_116 : decode cL_law 116 = .ok (.invokestatic 96, 3) := by decide +kernel
theorem dL_law_119 : decode cL_law 119 = .ok (.imul, 1) := by decide +kernel
theorem dL_law_120 : decode cL_law 120 = .ok (.bipush 13, 2) := by decide +kernel
theorem dL_law_122 : decode cL_law 122 = .ok (.iadd, 1) := by decide +kernel
theorem dL_law_123 : decode cL_law 123 = .ok (.goto 5, 3) := by decide +kernel
theorem dL_law_126 : decode cL_law 126 = .ok (.iload 4, 2) := by decide +kernel
theorem dL_law_128 : decode cL_law 128 = .ok (.istore 9, 2) := by decide +kernel
theorem dL_law_130 : decode cL_law 130 = .ok (.aload_n 1, 1) := by decide +kernel
theorem dL_law_131 : decode cL_law 131 = .ok (.iload 9, 2) := by decide +kernel
theorem dL_law_133 : decode cL_law 133 = .ok (.iload 5, 2) := by decide +kernel
theorem dL_law_135 : decode cL_law 135 = .ok (.invokestatic 122, 3) := by decide +kernel
theorem dL_law_138 : decode cL_law 138 = .ok (.istore 10, 2) := by decide +kernel
theorem dL_law_140 : decode cL_law 140 = .ok (.aload_n 1, 1) := by decide +kernel
theorem dL_law_141 : decode cL_law 141 = .ok (.bipush 8, 2) := by decide +kernel
theorem dL_law_143 : decode cL_law 143 = .ok (.invokevirtual 13, 3) := by decide +kernel
theorem dL_law_146 : decode cL_law 146 = .ok (.istore 11, 2) := by decide +kernel
theorem dL_law_148 : decode cL_law 148 = .ok (.iload 10, 2) := by decide +kernel
theorem dL_law_150 : decode cL_law 150 = .ok (.ifCond .ge 27, 3) := by decide +kernel
theorem dL_law_153 : decode cL_law 153 = .ok (.iload 10, 2) := by decide +kernel
theorem dL_law_155 : decode cL_law 155 = .ok (.bipush (-3), 2) := by decide +kernel
theorem dL_law_157 : decode cL_law 157 = .ok (.if_icmp .lt 24, 3) := by decide +kernel
theorem dL_law_160 : decode cL_law 160 = .ok (.aload_n 1, 1) := by decide +kernel
theorem dL_law_161 : decode cL_law 161 = .ok (.invokestatic 30, 3) := by decide +kernel
theorem dL_law_164 : decode cL_law 164 = .ok (.lload 6, 2) := by decide +kernel
theorem dL_law_166 : decode cL_law 166 = .ok (.lcmp, 1) := by decide +kernel
theorem dL_law_167 : decode cL_law 167 = .ok (.ifCond .ne 14, 3) := by decide +kernel
theorem dL_law_170 : decode cL_law 170 = .ok (.iload 11, 2) := by decide +kernel
theorem dL_law_172 : decode cL_law 172 = .ok (.iload 8, 2) := by decide +kernel
theorem dL_law_174 : decode cL_law 174 = .ok (.if_icmp .ne 7, 3) := by decide +kernel
theorem dL_law_177 : decode cL_law 177 = .ok (.iconst 1, 1) := by decide +kernel
theorem dL_law_178 : decode cL_law 178 = .ok (.goto 4, 3) := by decide +kernel
theorem dL_law_181 : decode cL_law 181 = .ok (.iconst 0, 1) := by decide +kernel
theorem dL_law_182 : decode cL_law 182 = .ok (.istore_n 2, 1) := by decide +kernel
theorem dL_law_183 : decode cL_law 183 = .ok (.iload_n 2, 1) := by decide +kernel
theorem dL_law_184 : decode cL_law 184 = .ok (.ifCond .eq 48, 3) := by decide +kernel
theorem dL_law_187 : decode cL_law 187 = .ok (.iload 10, 2) := by decide +kernel
theorem dL_law_189 : decode cL_law 189 = .ok (.ifCond .lt 43, 3) := by decide +kernel
theorem dL_law_192 : decode cL_law 192 = .ok (.iload_n 3, 1) := by decide +kernel
theorem dL_law_193 : decode cL_law 193 = .ok (.bipush 6, 2) := by decide +kernel
theorem dL_law_195 : decode cL_law 195 = .ok (.irem, 1) := by decide +kernel
theorem dL_law_196 : decode cL_law 196 = .ok (.iconst 5, 1) := by decide +kernel
theorem dL_law_197 : decode cL_law 197 = .ok (.if_icmp .ne 35, 3) := by decide +kernel
theorem dL_law_200 : decode cL_law 200 = .ok (.iload 11, 2) := by decide +kernel
theorem dL_law_202 : decode cL_law 202 = .ok (.iload 8, 2) := by decide +kernel
theorem dL_law_204 : decode cL_law 204 = .ok (.if_icmp .le 28, 3) := by decide +kernel
theorem dL_law_207 : decode cL_law 207 = .ok (.aload_n 1, 1) := by decide +kernel
theorem dL_law_208 : decode cL_law 208 = .ok (.invokevirtual 99, 3) := by decide +kernel
theorem dL_law_211 : decode cL_law 211 = .ok (.iload 8, 2) := by decide +kernel
theorem dL_law_213 : decode cL_law 213 = .ok (.if_icmp .ne 17, 3) := by decide +kernel
theorem dL_law_216 : decode cL_law 216 = .ok (.aload_n 1, 1) := by decide +kernel
theorem dL_law_217 : decode cL_law 217 = .ok (.invokestatic 30, 3) := by decide +kernel
theorem dL_law_220 : decode cL_law 220 = .ok (.lload 6, 2) := by decide +kernel
theorem dL_law_222 : decode cL_law 222 = .ok (.lcmp, 1) := by decide +kernel
theorem dL_law_223 : decode cL_law 223 = .ok (.ifCond .ne 7, 3) := by decide +kernel
theorem dL_law_226 : decode cL_law 226 = .ok (.iconst 1, 1) := by decide +kernel
theorem dL_law_227 : decode cL_law 227 = .ok (.goto 4, 3) := by decide +kernel
theorem dL_law_230 : decode cL_law 230 = .ok (.iconst 0, 1) := by decide +kernel
theorem dL_law_231 : decode cL_law 231 = .ok (.istore_n 2, 1) := by decide +kernel
theorem dL_law_232 : decode cL_law 232 = .ok (.iload_n 2, 1) := by decide +kernel
theorem dL_law_233 : decode cL_law 233 = .ok (.ifCond .eq 90, 3) := by decide +kernel
theorem dL_law_236 : decode cL_law 236 = .ok (.aload_n 1, 1) := by decide +kernel
theorem dL_law_237 : decode cL_law 237 = .ok (.invokestatic 111, 3) := by decide +kernel
theorem dL_law_240 : decode cL_law 240 = .ok (.ifCond .eq 83, 3) := by decide +kernel
theorem dL_law_243 : decode cL_law 243 = .ok (.aload_n 1, 1) := by decide +kernel
theorem dL_law_244 : decode cL_law 244 = .ok (.iconst 3, 1) := by decide +kernel
theorem dL_law_245 : decode cL_law 245 = .ok (.iload_n 3, 1) := by decide +kernel
theorem dL_law_246 : decode cL_law 246 = .ok (.iconst 2, 1) := by decide +kernel
theorem dL_law_247 : decode cL_law 247 = .ok (.irem, 1) := by decide +kernel
theorem dL_law_248 : decode cL_law 248 = .ok (.imul, 1) := by decide +kernel
theorem dL_law_249 : decode cL_law 249 = .ok (.invokestatic 125, 3) := by decide +kernel
theorem dL_law_252 : decode cL_law 252 = .ok (.ifCond .eq 71, 3) := by decide +kernel
theorem dL_law_255 : decode cL_law 255 = .ok (.iload_n 3, 1) := by decide +kernel
theorem dL_law_256 : decode cL_law 256 = .ok (.iconst 5, 1) := by decide +kernel
theorem dL_law_257 : decode cL_law 257 = .ok (.irem, 1) := by decide +kernel
theorem dL_law_258 : decode cL_law 258 = .ok (.iconst 2, 1) := by decide +kernel
theorem dL_law_259 : decode cL_law 259 = .ok (.if_icmp .ne 10, 3) := by decide +kernel
theorem dL_law_262 : decode cL_law 262 = .ok (.aload_n 1, 1) := by decide +kernel
theorem dL_law_263 : decode cL_law 263 = .ok (.invokestatic 114, 3) := by decide +kernel
theorem dL_law_266 : decode cL_law 266 = .ok (.ifCond .eq 57, 3) := by decide +kernel
theorem dL_law_269 : decode cL_law 269 = .ok (.iload_n 3, 1) := by decide +kernel
theorem dL_law_270 : decode cL_law 270 = .ok (.iconst 4, 1) := by decide +kernel
theorem dL_law_271 : decode cL_law 271 = .ok (.irem, 1) := by decide +kernel
theorem dL_law_272 : decode cL_law 272 = .ok (.iconst 1, 1) := by decide +kernel
theorem dL_law_273 : decode cL_law 273 = .ok (.if_icmp .ne 14, 3) := by decide +kernel
theorem dL_law_276 : decode cL_law 276 = .ok (.aload_n 1, 1) := by decide +kernel
theorem dL_law_277 : decode cL_law 277 = .ok (.iload 5, 2) := by decide +kernel
theorem dL_law_279 : decode cL_law 279 = .ok (.iconst 1, 1) := by decide +kernel
theorem dL_law_280 : decode cL_law 280 = .ok (.ishr, 1) := by decide +kernel
theorem dL_law_281 : decode cL_law 281 = .ok (.invokestatic 129, 3) := by decide +kernel
theorem dL_law_284 : decode cL_law 284 = .ok (.ifCond .eq 39, 3) := by decide +kernel
theorem dL_law_287 : decode cL_law 287 = .ok (.iload_n 3, 1) := by decide +kernel
theorem dL_law_288 : decode cL_law 288 = .ok (.bipush 9, 2) := by decide +kernel
theorem dL_law_290 : decode cL_law 290 = .ok (.irem, 1) := by decide +kernel
theorem dL_law_291 : decode cL_law 291 = .ok (.bipush 7, 2) := by decide +kernel
theorem dL_law_293 : decode cL_law 293 = .ok (.if_icmp .ne 10, 3) := by decide +kernel
theorem dL_law_296 : decode cL_law 296 = .ok (.aload_n 1, 1) := by decide +kernel
theorem dL_law_297 : decode cL_law 297 = .ok (.invokestatic 132, 3) := by decide +kernel
theorem dL_law_300 : decode cL_law 300 = .ok (.ifCond .eq 23, 3) := by decide +kernel
theorem dL_law_303 : decode cL_law 303 = .ok (.iload_n 3, 1) := by decide +kernel
theorem dL_law_304 : decode cL_law 304 = .ok (.bipush 8, 2) := by decide +kernel
theorem dL_law_306 : decode cL_law 306 = .ok (.irem, 1) := by decide +kernel
theorem dL_law_307 : decode cL_law 307 = .ok (.bipush 6, 2) := by decide +kernel
theorem dL_law_309 : decode cL_law 309 = .ok (.if_icmp .ne 10, 3) := by decide +kernel
theorem dL_law_312 : decode cL_law 312 = .ok (.aload_n 1, 1) := by decide +kernel
theorem dL_law_313 : decode cL_law 313 = .ok (.invokestatic 107, 3) := by decide +kernel
theorem dL_law_316 : decode cL_law 316 = .ok (.ifCond .eq 7, 3) := by decide +kernel
theorem dL_law_319 : decode cL_law 319 = .ok (.iconst 1, 1) := by decide +kernel
theorem dL_law_320 : decode cL_law 320 = .ok (.goto 4, 3) := by decide +kernel
theorem dL_law_323 : decode cL_law 323 = .ok (.iconst 0, 1) := by decide +kernel
theorem dL_law_324 : decode cL_law 324 = .ok (.istore_n 2, 1) := by decide +kernel
theorem dL_law_325 : decode cL_law 325 = .ok (.iinc 3 1, 3) := by decide +kernel
theorem dL_law_328 : decode cL_law 328 = .ok (.goto (-282), 3) := by decide +kernel
theorem dL_law_331 : decode cL_law 331 = .ok (.iload_n 2, 1) := by decide +kernel
theorem dL_law_332 : decode cL_law 332 = .ok (.ifCond .eq 28, 3) := by decide +kernel
theorem dL_law_335 : decode cL_law 335 = .ok (.aload_n 1, 1) := by decide +kernel
theorem dL_law_336 : decode cL_law 336 = .ok (.invokestatic 107, 3) := by decide +kernel
theorem dL_law_339 : decode cL_law 339 = .ok (.ifCond .eq 21, 3) := by decide +kernel
theorem dL_law_342 : decode cL_law 342 = .ok (.aload_n 1, 1) := by decide +kernel
theorem dL_law_343 : decode cL_law 343 = .ok (.invokestatic 111, 3) := by decide +kernel
theorem dL_law_346 : decode cL_law 346 = .ok (.ifCond .eq 14, 3) := by decide +kernel
theorem dL_law_349 : decode cL_law 349 = .ok (.aload_n 1, 1) := by decide +kernel
theorem dL_law_350 : decode cL_law 350 = .ok (.invokestatic 114, 3) := by decide +kernel
theorem dL_law_353 : decode cL_law 353 = .ok (.ifCond .eq 7, 3) := by decide +kernel
theorem dL_law_356 : decode cL_law 356 = .ok (.iconst 1, 1) := by decide +kernel
theorem dL_law_357 : decode cL_law 357 = .ok (.goto 4, 3) := by decide +kernel
theorem dL_law_360 : decode cL_law 360 = .ok (.iconst 0, 1) := by decide +kernel
theorem dL_law_361 : decode cL_law 361 = .ok (.ireturn, 1) := by decide +kernel
