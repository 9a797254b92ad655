theorem dX0_init_0 : decode cX0_init 0 = .ok (.aload_n 0, 1) := by decide +kernel
theorem dX0_init_1 : decode cX0_init 1 = .ok (.invokespecial 3, 3) := by decide +kernel
theorem dX0_init_4 : decode cX0_init 4 = .ok (.aload_n 0, 1) := by decide +kernel
theorem dX0_init_5 : decode cX0_init 5 = .ok (.sipush 259, 3) := by decide +kernel
theorem dX0_init_8 : decode cX0_init 8 = .ok (.newarray .int, 2) := by decide +kernel
theorem dX0_init_10 : decode cX0_init 10 = .ok (.putfield 9, 3) := by decide +kernel
theorem dX0_init_13 : decode cX0_init 13 = .ok (.aload_n 0, 1) := by decide +kernel
theorem dX0_init_14 : decode cX0_init 14 = .ok (.aload_n 1, 1) := by decide +kernel
theorem dX0_init_15 : decode cX0_init 15 = .ok (.putfield 15, 3) := by decide +kernel
theorem dX0_init_18 : decode cX0_init 18 = .ok (.aload_n 0, 1) := by decide +kernel
theorem dX0_init_19 : decode cX0_init 19 = .ok (.aload_n 2, 1) := by decide +kernel
theorem dX0_init_20 : decode cX0_init 20 = .ok (.putfield 19, 3) := by decide +kernel
theorem dX0_init_23 : decode cX0_init 23 = .ok (.return_, 1) := by decide +kernel
theorem dX0_plainWorth_0 : decode cX0_plainWorth 0 = .ok (.aload_n 0, 1) := by decide +kernel
theorem dX0_plainWorth_1 : decode cX0_plainWorth 1 = .ok (.getfield 19, 3) := by decide +kernel
theorem dX0_plainWorth_4 : decode cX0_plainWorth 4 = .ok (.invokevirtual 23, 3) := by decide +kernel
theorem dX0_plainWorth_7 : decode cX0_plainWorth 7 = .ok (.aload_n 0, 1) := by decide +kernel
theorem dX0_plainWorth_8 : decode cX0_plainWorth 8 = .ok (.getfield 19, 3) := by decide +kernel
theorem dX0_plainWorth_11 : decode cX0_plainWorth 11 = .ok (.iload_n 1, 1) := by decide +kernel
theorem dX0_plainWorth_12 : decode cX0_plainWorth 12 = .ok (.invokevirtual 28, 3) := by decide +kernel
theorem dX0_plainWorth_15 : decode cX0_plainWorth 15 = .ok (.aload_n 0, 1) := by decide +kernel
theorem dX0_plainWorth_16 : decode cX0_plainWorth 16 = .ok (.getfield 19, 3) := by decide +kernel
theorem dX0_plainWorth_19 : decode cX0_plainWorth 19 = .ok (.iload_n 1, 1) := by decide +kernel
theorem dX0_plainWorth_20 : decode cX0_plainWorth 20 = .ok (.invokevirtual 32, 3) := by decide +kernel
theorem dX0_plainWorth_23 : decode cX0_plainWorth 23 = .ok (.aload_n 0, 1) := by decide +kernel
theorem dX0_plainWorth_24 : decode cX0_plainWorth 24 = .ok (.getfield 19, 3) := by decide +kernel
theorem dX0_plainWorth_27 : decode cX0_plainWorth 27 = .ok (.getfield 35, 3) := by decide +kernel
theorem dX0_plainWorth_30 : decode cX0_plainWorth 30 = .ok (.ireturn, 1) := by decide +kernel
theorem dX0_exchange_0 : decode cX0_exchange 0 = .ok (.aload_n 0, 1) := by decide +kernel
theorem dX0_exchange_1 : decode cX0_exchange 1 = .ok (.getfield 19, 3) := by decide +kernel
theorem dX0_exchange_4 : decode cX0_exchange 4 = .ok (.invokevirtual 23, 3) := by decide +kernel
theorem dX0_exchange_7 : decode cX0_exchange 7 = .ok (.aload_n 0, 1) := by decide +kernel
theorem dX0_exchange_8 : decode cX0_exchange 8 = .ok (.getfield 19, 3) := by decide +kernel
theorem dX0_exchange_11 : decode cX0_exchange 11 = .ok (.iload_n 1, 1) := by decide +kernel
theorem dX0_exchange_12 : decode cX0_exchange 12 = .ok (.invokevirtual 28, 3) := by decide +kernel
theorem dX0_exchange_15 : decode cX0_exchange 15 = .ok (.iconst 0, 1) := by decide +kernel
theorem dX0_exchange_16 : decode cX0_exchange 16 = .ok (.istore_n 3, 1) := by decide +kernel
theorem dX0_exchange_17 : decode cX0_exchange 17 = .ok (.iload_n 3, 1) := by decide +kernel
theorem dX0_exchange_18 : decode cX0_exchange 18 = .ok (.aload_n 0, 1) := by decide +kernel
theorem dX0_exchange_19 : decode cX0_exchange 19 = .ok (.getfield 15, 3) := by decide +kernel
theorem dX0_exchange_22 : decode cX0_exchange 22 = .ok (.getfield 39, 3) := by decide +kernel
theorem dX0_exchange_25 : decode cX0_exchange 25 = .ok (.if_icmp .ge 42, 3) := by decide +kernel
theorem dX0_exchange_28 : decode cX0_exchange 28 = .ok (.aload_n 0, 1) := by decide +kernel
theorem dX0_exchange_29 : decode cX0_exchange 29 = .ok (.getfield 19, 3) := by decide +kernel
theorem dX0_exchange_32 : decode cX0_exchange 32 = .ok (.iload_n 3, 1) := by decide +kernel
theorem dX0_exchange_33 : decode cX0_exchange 33 = .ok (.invokevirtual 44, 3) := by decide +kernel
theorem dX0_exchange_36 : decode cX0_exchange 36 = .ok (.istore 4, 2) := by decide +kernel
theorem dX0_exchange_38 : decode cX0_exchange 38 = .ok (.aload_n 0, 1) := by decide +kernel
theorem dX0_exchange_39 : decode cX0_exchange 39 = .ok (.getfield 19, 3) := by decide +kernel
theorem dX0_exchange_42 : decode cX0_exchange 42 = .ok (.iload_n 3, 1) := by decide +kernel
theorem dX0_exchange_43 : decode cX0_exchange 43 = .ok (.aload_n 0, 1) := by decide +kernel
theorem dX0_exchange_44 : decode cX0_exchange 44 = .ok (.getfield 19, 3) := by decide +kernel
theorem dX0_exchange_47 : decode cX0_exchange 47 = .ok (.iload_n 3, 1) := by decide +kernel
theorem dX0_exchange_48 : decode cX0_exchange 48 = .ok (.invokevirtual 48, 3) := by decide +kernel
theorem dX0_exchange_51 : decode cX0_exchange 51 = .ok (.iload_n 2, 1) := by decide +kernel
theorem dX0_exchange_52 : decode cX0_exchange 52 = .ok (.iload 4, 2) := by decide +kernel
theorem dX0_exchange_54 : decode cX0_exchange 54 = .ok (.imul, 1) := by decide +kernel
theorem dX0_exchange_55 : decode cX0_exchange 55 = .ok (.iadd, 1) := by decide +kernel
theorem dX0_exchange_56 : decode cX0_exchange 56 = .ok (.iload 4, 2) := by decide +kernel
theorem dX0_exchange_58 : decode cX0_exchange 58 = .ok (.invokevirtual 51, 3) := by decide +kernel
theorem dX0_exchange_61 : decode cX0_exchange 61 = .ok (.iinc 3 1, 3) := by decide +kernel
theorem dX0_exchange_64 : decode cX0_exchange 64 = .ok (.goto (-47), 3) := by decide +kernel
theorem dX0_exchange_67 : decode cX0_exchange 67 = .ok (.aload_n 0, 1) := by decide +kernel
theorem dX0_exchange_68 : decode cX0_exchange 68 = .ok (.getfield 19, 3) := by decide +kernel
theorem dX0_exchange_71 : decode cX0_exchange 71 = .ok (.aload_n 0, 1) := by decide +kernel
theorem dX0_exchange_72 : decode cX0_exchange 72 = .ok (.getfield 15, 3) := by decide +kernel
theorem dX0_exchange_75 : decode cX0_exchange 75 = .ok (.iconst 5, 1) := by decide +kernel
theorem dX0_exchange_76 : decode cX0_exchange 76 = .ok (.iload_n 1, 1) := by decide +kernel
theorem dX0_exchange_77 : decode cX0_exchange 77 = .ok (.invokevirtual 55, 3) := by decide +kernel
theorem dX0_exchange_80 : decode cX0_exchange 80 = .ok (.iload_n 2, 1) := by decide +kernel
theorem dX0_exchange_81 : decode cX0_exchange 81 = .ok (.aload_n 0, 1) := by decide +kernel
theorem dX0_exchange_82 : decode cX0_exchange 82 = .ok (.getfield 15, 3) := by decide +kernel
theorem dX0_exchange_85 : decode cX0_exchange 85 = .ok (.iload_n 1, 1) := by decide +kernel
theorem dX0_exchange_86 : decode cX0_exchange 86 = .ok (.invokevirtual 59, 3) := by decide +kernel
theorem dX0_exchange_89 : decode cX0_exchange 89 = .ok (.imul, 1) := by decide +kernel
theorem dX0_exchange_90 : decode cX0_exchange 90 = .ok (.iadd, 1) := by decide +kernel
theorem dX0_exchange_91 : decode cX0_exchange 91 = .ok (.iconst 0, 1) := by decide +kernel
theorem dX0_exchange_92 : decode cX0_exchange 92 = .ok (.iconst 0, 1) := by decide +kernel
theorem dX0_exchange_93 : decode cX0_exchange 93 = .ok (.invokevirtual 62, 3) := by decide +kernel
theorem dX0_exchange_96 : decode cX0_exchange 96 = .ok (.return_, 1) := by decide +kernel
theorem dX0_pointsThere_0 : decode cX0_pointsThere 0 = .ok (.iconst 0, 1) := by decide +kernel
theorem dX0_pointsThere_1 : decode cX0_pointsThere 1 = .ok (.istore_n 1, 1) := by decide +kernel
theorem dX0_pointsThere_2 : decode cX0_pointsThere 2 = .ok (.iconst 0, 1) := by decide +kernel
theorem dX0_pointsThere_3 : decode cX0_pointsThere 3 = .ok (.istore_n 2, 1) := by decide +kernel
theorem dX0_pointsThere_4 : decode cX0_pointsThere 4 = .ok (.iload_n 2, 1) := by decide +kernel
theorem dX0_pointsThere_5 : decode cX0_pointsThere 5 = .ok (.aload_n 0, 1) := by decide +kernel
theorem dX0_pointsThere_6 : decode cX0_pointsThere 6 = .ok (.getfield 15, 3) := by decide +kernel
theorem dX0_pointsThere_9 : decode cX0_pointsThere 9 = .ok (.getfield 65, 3) := by decide +kernel
theorem dX0_pointsThere_12 : decode cX0_pointsThere 12 = .ok (.if_icmp .ge 30, 3) := by decide +kernel
theorem dX0_pointsThere_15 : decode cX0_pointsThere 15 = .ok (.iload_n 1, 1) := by decide +kernel
theorem dX0_pointsThere_16 : decode cX0_pointsThere 16 = .ok (.aload_n 0, 1) := by decide +kernel
theorem dX0_pointsThere_17 : decode cX0_pointsThere 17 = .ok (.getfield 15, 3) := by decide +kernel
theorem dX0_pointsThere_20 : decode cX0_pointsThere 20 = .ok (.iconst 4, 1) := by decide +kernel
theorem dX0_pointsThere_21 : decode cX0_pointsThere 21 = .ok (.iload_n 2, 1) := by decide +kernel
theorem dX0_pointsThere_22 : decode cX0_pointsThere 22 = .ok (.invokevirtual 55, 3) := by decide +kernel
theorem dX0_pointsThere_25 : decode cX0_pointsThere 25 = .ok (.aload_n 0, 1) := by decide +kernel
theorem dX0_pointsThere_26 : decode cX0_pointsThere 26 = .ok (.getfield 15, 3) := by decide +kernel
theorem dX0_pointsThere_29 : decode cX0_pointsThere 29 = .ok (.iload_n 2, 1) := by decide +kernel
theorem dX0_pointsThere_30 : decode cX0_pointsThere 30 = .ok (.invokevirtual 59, 3) := by decide +kernel
theorem dX0_pointsThere_33 : decode cX0_pointsThere 33 = .ok (.imul, 1) := by decide +kernel
theorem dX0_pointsThere_34 : decode cX0_pointsThere 34 = .ok (.iadd, 1) := by decide +kernel
theorem dX0_pointsThere_35 : decode cX0_pointsThere 35 = .ok (.istore_n 1, 1) := by decide +kernel
theorem dX0_pointsThere_36 : decode cX0_pointsThere 36 = .ok (.iinc 2 1, 3) := by decide +kernel
theorem dX0_pointsThere_39 : decode cX0_pointsThere 39 = .ok (.goto (-35), 3) := by decide +kernel
theorem dX0_pointsThere_42 : decode cX0_pointsThere 42 = .ok (.iload_n 1, 1) := by decide +kernel
theorem dX0_pointsThere_43 : decode cX0_pointsThere 43 = .ok (.ireturn, 1) := by decide +kernel
theorem dX0_pointsTaken_0 : decode cX0_pointsTaken 0 = .ok (.iconst 0, 1) := by decide +kernel
theorem dX0_pointsTaken_1 : decode cX0_pointsTaken 1 = .ok (.istore_n 2, 1) := by decide +kernel
theorem dX0_pointsTaken_2 : decode cX0_pointsTaken 2 = .ok (.iconst 0, 1) := by decide +kernel
theorem dX0_pointsTaken_3 : decode cX0_pointsTaken 3 = .ok (.istore_n 3, 1) := by decide +kernel
theorem dX0_pointsTaken_4 : decode cX0_pointsTaken 4 = .ok (.iload_n 3, 1) := by decide +kernel
theorem dX0_pointsTaken_5 : decode cX0_pointsTaken 5 = .ok (.aload_n 0, 1) := by decide +kernel
theorem dX0_pointsTaken_6 : decode cX0_pointsTaken 6 = .ok (.getfield 15, 3) := by decide +kernel
theorem dX0_pointsTaken_9 : decode cX0_pointsTaken 9 = .ok (.getfield 65, 3) := by decide +kernel
theorem dX0_pointsTaken_12 : decode cX0_pointsTaken 12 = .ok (.if_icmp .ge 35, 3) := by decide +kernel
theorem dX0_pointsTaken_15 : decode cX0_pointsTaken 15 = .ok (.aload_n 0, 1) := by decide +kernel
theorem dX0_pointsTaken_16 : decode cX0_pointsTaken 16 = .ok (.iload_n 3, 1) := by decide +kernel
theorem dX0_pointsTaken_17 : decode cX0_pointsTaken 17 = .ok (.iload_n 1, 1) := by decide +kernel
theorem dX0_pointsTaken_18 : decode cX0_pointsTaken 18 = .ok (.invokevirtual 68, 3) := by decide +kernel
theorem dX0_pointsTaken_21 : decode cX0_pointsTaken 21 = .ok (.iload_n 2, 1) := by decide +kernel
theorem dX0_pointsTaken_22 : decode cX0_pointsTaken 22 = .ok (.aload_n 0, 1) := by decide +kernel
theorem dX0_pointsTaken_23 : decode cX0_pointsTaken 23 = .ok (.getfield 15, 3) := by decide +kernel
theorem dX0_pointsTaken_26 : decode cX0_pointsTaken 26 = .ok (.iconst 4, 1) := by decide +kernel
theorem dX0_pointsTaken_27 : decode cX0_pointsTaken 27 = .ok (.iload_n 3, 1) := by decide +kernel
theorem dX0_pointsTaken_28 : decode cX0_pointsTaken 28 = .ok (.invokevirtual 55, 3) := by decide +kernel
theorem dX0_pointsTaken_31 : decode cX0_pointsTaken 31 = .ok (.aload_n 0, 1) := by decide +kernel
theorem dX0_pointsTaken_32 : decode cX0_pointsTaken 32 = .ok (.getfield 19, 3) := by decide +kernel
theorem dX0_pointsTaken_35 : decode cX0_pointsTaken 35 = .ok (.getfield 72, 3) := by decide +kernel
theorem dX0_pointsTaken_38 : decode cX0_pointsTaken 38 = .ok (.imul, 1) := by decide +kernel
theorem dX0_pointsTaken_39 : decode cX0_pointsTaken 39 = .ok (.iadd, 1) := by decide +kernel
theorem dX0_pointsTaken_40 : decode cX0_pointsTaken 40 = .ok (.istore_n 2, 1) := by decide +kernel
theorem dX0_pointsTaken_41 : decode cX0_pointsTaken 41 = .ok (.iinc 3 1, 3) := by decide +kernel
theorem dX0_pointsTaken_44 : decode cX0_pointsTaken 44 = .ok (.goto (-40), 3) := by decide +kernel
theorem dX0_pointsTaken_47 : decode cX0_pointsTaken 47 = .ok (.iload_n 2, 1) := by decide +kernel
theorem dX0_pointsTaken_48 : decode cX0_pointsTaken 48 = .ok (.ireturn, 1) := by decide +kernel
theorem dX0_byStealth_0 : decode cX0_byStealth 0 = .ok (.aload_n 0, 1) := by decide +kernel
theorem dX0_byStealth_1 : decode cX0_byStealth 1 = .ok (.getfield 19, 3) := by decide +kernel
theorem dX0_byStealth_4 : decode cX0_byStealth 4 = .ok (.invokevirtual 23, 3) := by decide +kernel
theorem dX0_byStealth_7 : decode cX0_byStealth 7 = .ok (.aload_n 0, 1) := by decide +kernel
theorem dX0_byStealth_8 : decode cX0_byStealth 8 = .ok (.getfield 19, 3) := by decide +kernel
theorem dX0_byStealth_11 : decode cX0_byStealth 11 = .ok (.iload_n 1, 1) := by decide +kernel
theorem dX0_byStealth_12 : decode cX0_byStealth 12 = .ok (.invokevirtual 28, 3) := by decide +kernel
theorem dX0_byStealth_15 : decode cX0_byStealth 15 = .ok (.iload_n 2, 1) := by decide +kernel
theorem dX0_byStealth_16 : decode cX0_byStealth 16 = .ok (.iload_n 3, 1) := by decide +kernel
theorem dX0_byStealth_17 : decode cX0_byStealth 17 = .ok (.iload 4, 2) := by decide +kernel
theorem dX0_byStealth_19 : decode cX0_byStealth 19 = .ok (.imul, 1) := by decide +kernel
theorem dX0_byStealth_20 : decode cX0_byStealth 20 = .ok (.bipush 99, 2) := by decide +kernel
theorem dX0_byStealth_22 : decode cX0_byStealth 22 = .ok (.iadd, 1) := by decide +kernel
theorem dX0_byStealth_23 : decode cX0_byStealth 23 = .ok (.bipush 100, 2) := by decide +kernel
theorem dX0_byStealth_25 : decode cX0_byStealth 25 = .ok (.idiv, 1) := by decide +kernel
theorem dX0_byStealth_26 : decode cX0_byStealth 26 = .ok (.iadd, 1) := by decide +kernel
theorem dX0_byStealth_27 : decode cX0_byStealth 27 = .ok (.istore 5, 2) := by decide +kernel
theorem dX0_byStealth_29 : decode cX0_byStealth 29 = .ok (.aload_n 0, 1) := by decide +kernel
theorem dX0_byStealth_30 : decode cX0_byStealth 30 = .ok (.getfield 19, 3) := by decide +kernel
theorem dX0_byStealth_33 : decode cX0_byStealth 33 = .ok (.aload_n 0, 1) := by decide +kernel
theorem dX0_byStealth_34 : decode cX0_byStealth 34 = .ok (.getfield 15, 3) := by decide +kernel
theorem dX0_byStealth_37 : decode cX0_byStealth 37 = .ok (.iconst 5, 1) := by decide +kernel
theorem dX0_byStealth_38 : decode cX0_byStealth 38 = .ok (.iload_n 1, 1) := by decide +kernel
theorem dX0_byStealth_39 : decode cX0_byStealth 39 = .ok (.invokevirtual 55, 3) := by decide +kernel
theorem dX0_byStealth_42 : decode cX0_byStealth 42 = .ok (.aload_n 0, 1) := by decide +kernel
theorem dX0_byStealth_43 : decode cX0_byStealth 43 = .ok (.getfield 15, 3) := by decide +kernel
theorem dX0_byStealth_46 : decode cX0_byStealth 46 = .ok (.iload_n 1, 1) := by decide +kernel
theorem dX0_byStealth_47 : decode cX0_byStealth 47 = .ok (.invokevirtual 59, 3) := by decide +kernel
theorem dX0_byStealth_50 : decode cX0_byStealth 50 = .ok (.iload 5, 2) := by decide +kernel
theorem dX0_byStealth_52 : decode cX0_byStealth 52 = .ok (.invokevirtual 62, 3) := by decide +kernel
theorem dX0_byStealth_55 : decode cX0_byStealth 55 = .ok (.aload_n 0, 1) := by decide +kernel
theorem dX0_byStealth_56 : decode cX0_byStealth 56 = .ok (.getfield 19, 3) := by decide +kernel
theorem dX0_byStealth_59 : decode cX0_byStealth 59 = .ok (.getfield 35, 3) := by decide +kernel
theorem dX0_byStealth_62 : decode cX0_byStealth 62 = .ok (.ireturn, 1) := by decide +kernel
theorem dX0_otherwise_0 : decode cX0_otherwise 0 = .ok (.aload_n 0, 1) := by decide +kernel
theorem dX0_otherwise_1 : decode cX0_otherwise 1 = .ok (.getfield 19, 3) := by decide +kernel
theorem dX0_otherwise_4 : decode cX0_otherwise 4 = .ok (.invokevirtual 23, 3) := by decide +kernel
theorem dX0_otherwise_7 : decode cX0_otherwise 7 = .ok (.aload_n 0, 1) := by decide +kernel
theorem dX0_otherwise_8 : decode cX0_otherwise 8 = .ok (.getfield 19, 3) := by decide +kernel
theorem dX0_otherwise_11 : decode cX0_otherwise 11 = .ok (.iload_n 1, 1) := by decide +kernel
theorem dX0_otherwise_12 : decode cX0_otherwise 12 = .ok (.invokevirtual 28, 3) := by decide +kernel
theorem dX0_otherwise_15 : decode cX0_otherwise 15 = .ok (.iload_n 2, 1) := by decide +kernel
theorem dX0_otherwise_16 : decode cX0_otherwise 16 = .ok (.ifCond .ne 10, 3) := by decide +kernel
theorem dX0_otherwise_19 : decode cX0_otherwise 19 = .ok (.aload_n 0, 1) := by decide +kernel
theorem dX0_otherwise_20 : decode cX0_otherwise 20 = .ok (.invokevirtual 75, 3) := by decide +kernel
theorem dX0_otherwise_23 : decode cX0_otherwise 23 = .ok (.goto 9, 3) := by decide +kernel
theorem dX0_otherwise_26 : decode cX0_otherwise 26 = .ok (.aload_n 0, 1) := by decide +kernel
theorem dX0_otherwise_27 : decode cX0_otherwise 27 = .ok (.iload_n 1, 1) := by decide +kernel
theorem dX0_otherwise_28 : decode cX0_otherwise 28 = .ok (.iload_n 2, 1) := by decide +kernel
theorem dX0_otherwise_29 : decode cX0_otherwise 29 = .ok (.invokevirtual 79, 3) := by decide +kernel
theorem dX0_otherwise_32 : decode cX0_otherwise 32 = .ok (.ireturn, 1) := by decide +kernel
theorem dX0_equalWorth_0 : decode cX0_equalWorth 0 = .ok (.aload_n 0, 1) := by decide +kernel
theorem dX0_equalWorth_1 : decode cX0_equalWorth 1 = .ok (.getfield 15, 3) := by decide +kernel
theorem dX0_equalWorth_4 : decode cX0_equalWorth 4 = .ok (.invokevirtual 82, 3) := by decide +kernel
theorem dX0_equalWorth_7 : decode cX0_equalWorth 7 = .ok (.istore_n 1, 1) := by decide +kernel
theorem dX0_equalWorth_8 : decode cX0_equalWorth 8 = .ok (.iconst 0, 1) := by decide +kernel
theorem dX0_equalWorth_9 : decode cX0_equalWorth 9 = .ok (.istore_n 2, 1) := by decide +kernel
theorem dX0_equalWorth_10 : decode cX0_equalWorth 10 = .ok (.iconst 0, 1) := by decide +kernel
theorem dX0_equalWorth_11 : decode cX0_equalWorth 11 = .ok (.istore_n 3, 1) := by decide +kernel
theorem dX0_equalWorth_12 : decode cX0_equalWorth 12 = .ok (.iload_n 3, 1) := by decide +kernel
theorem dX0_equalWorth_13 : decode cX0_equalWorth 13 = .ok (.aload_n 0, 1) := by decide +kernel
theorem dX0_equalWorth_14 : decode cX0_equalWorth 14 = .ok (.getfield 15, 3) := by decide +kernel
theorem dX0_equalWorth_17 : decode cX0_equalWorth 17 = .ok (.getfield 39, 3) := by decide +kernel
theorem dX0_equalWorth_20 : decode cX0_equalWorth 20 = .ok (.if_icmp .ge 47, 3) := by decide +kernel
theorem dX0_equalWorth_23 : decode cX0_equalWorth 23 = .ok (.iload_n 1, 1) := by decide +kernel
theorem dX0_equalWorth_24 : decode cX0_equalWorth 24 = .ok (.ifCond .ne 7, 3) := by decide +kernel
theorem dX0_equalWorth_27 : decode cX0_equalWorth 27 = .ok (.iconst 0, 1) := by decide +kernel
theorem dX0_equalWorth_28 : decode cX0_equalWorth 28 = .ok (.goto 14, 3) := by decide +kernel
theorem dX0_equalWorth_31 : decode cX0_equalWorth 31 = .ok (.aload_n 0, 1) := by decide +kernel
theorem dX0_equalWorth_32 : decode cX0_equalWorth 32 = .ok (.getfield 15, 3) := by decide +kernel
theorem dX0_equalWorth_35 : decode cX0_equalWorth 35 = .ok (.iconst 0, 1) := by decide +kernel
theorem dX0_equalWorth_36 : decode cX0_equalWorth 36 = .ok (.iload_n 3, 1) := by decide +kernel
theorem dX0_equalWorth_37 : decode cX0_equalWorth 37 = .ok (.invokevirtual 55, 3) := by decide +kernel
theorem dX0_equalWorth_40 : decode cX0_equalWorth 40 = .ok (.iload_n 1, 1) := by decide +kernel
theorem dX0_equalWorth_41 : decode cX0_equalWorth 41 = .ok (.idiv, 1) := by decide +kernel
theorem dX0_equalWorth_42 : decode cX0_equalWorth 42 = .ok (.istore 4, 2) := by decide +kernel
theorem dX0_equalWorth_44 : decode cX0_equalWorth 44 = .ok (.iload_n 2, 1) := by decide +kernel
theorem dX0_equalWorth_45 : decode cX0_equalWorth 45 = .ok (.aload_n 0, 1) := by decide +kernel
theorem dX0_equalWorth_46 : decode cX0_equalWorth 46 = .ok (.getfield 19, 3) := by decide +kernel
theorem dX0_equalWorth_49 : decode cX0_equalWorth 49 = .ok (.iload_n 3, 1) := by decide +kernel
theorem dX0_equalWorth_50 : decode cX0_equalWorth 50 = .ok (.iconst 3, 1) := by decide +kernel
theorem dX0_equalWorth_51 : decode cX0_equalWorth 51 = .ok (.iload 4, 2) := by decide +kernel
theorem dX0_equalWorth_53 : decode cX0_equalWorth 53 = .ok (.invokestatic 85, 3) := by decide +kernel
theorem dX0_equalWorth_56 : decode cX0_equalWorth 56 = .ok (.invokevirtual 90, 3) := by decide +kernel
theorem dX0_equalWorth_59 : decode cX0_equalWorth 59 = .ok (.iadd, 1) := by decide +kernel
theorem dX0_equalWorth_60 : decode cX0_equalWorth 60 = .ok (.istore_n 2, 1) := by decide +kernel
theorem dX0_equalWorth_61 : decode cX0_equalWorth 61 = .ok (.iinc 3 1, 3) := by decide +kernel
theorem dX0_equalWorth_64 : decode cX0_equalWorth 64 = .ok (.goto (-52), 3) := by decide +kernel
theorem dX0_equalWorth_67 : decode cX0_equalWorth 67 = .ok (.iload_n 2, 1) := by decide +kernel
theorem dX0_equalWorth_68 : decode cX0_equalWorth 68 = .ok (.ireturn, 1) := by decide +kernel
theorem dX0_coinWorth_0 : decode cX0_coinWorth 0 = .ok (.iconst 0, 1) := by decide +kernel
theorem dX0_coinWorth_1 : decode cX0_coinWorth 1 = .ok (.istore_n 3, 1) := by decide +kernel
theorem dX0_coinWorth_2 : decode cX0_coinWorth 2 = .ok (.iload_n 3, 1) := by decide +kernel
theorem dX0_coinWorth_3 : decode cX0_coinWorth 3 = .ok (.aload_n 0, 1) := by decide +kernel
theorem dX0_coinWorth_4 : decode cX0_coinWorth 4 = .ok (.getfield 15, 3) := by decide +kernel
theorem dX0_coinWorth_7 : decode cX0_coinWorth 7 = .ok (.getfield 39, 3) := by decide +kernel
theorem dX0_coinWorth_10 : decode cX0_coinWorth 10 = .ok (.if_icmp .ge 31, 3) := by decide +kernel
theorem dX0_coinWorth_13 : decode cX0_coinWorth 13 = .ok (.aload_n 0, 1) := by decide +kernel
theorem dX0_coinWorth_14 : decode cX0_coinWorth 14 = .ok (.getfield 19, 3) := by decide +kernel
theorem dX0_coinWorth_17 : decode cX0_coinWorth 17 = .ok (.iload_n 3, 1) := by decide +kernel
theorem dX0_coinWorth_18 : decode cX0_coinWorth 18 = .ok (.aload_n 0, 1) := by decide +kernel
theorem dX0_coinWorth_19 : decode cX0_coinWorth 19 = .ok (.getfield 19, 3) := by decide +kernel
theorem dX0_coinWorth_22 : decode cX0_coinWorth 22 = .ok (.iload_n 3, 1) := by decide +kernel
theorem dX0_coinWorth_23 : decode cX0_coinWorth 23 = .ok (.invokevirtual 48, 3) := by decide +kernel
theorem dX0_coinWorth_26 : decode cX0_coinWorth 26 = .ok (.iload_n 2, 1) := by decide +kernel
theorem dX0_coinWorth_27 : decode cX0_coinWorth 27 = .ok (.imul, 1) := by decide +kernel
theorem dX0_coinWorth_28 : decode cX0_coinWorth 28 = .ok (.bipush 100, 2) := by decide +kernel
theorem dX0_coinWorth_30 : decode cX0_coinWorth 30 = .ok (.idiv, 1) := by decide +kernel
theorem dX0_coinWorth_31 : decode cX0_coinWorth 31 = .ok (.iconst 0, 1) := by decide +kernel
theorem dX0_coinWorth_32 : decode cX0_coinWorth 32 = .ok (.invokevirtual 51, 3) := by decide +kernel
theorem dX0_coinWorth_35 : decode cX0_coinWorth 35 = .ok (.iinc 3 1, 3) := by decide +kernel
theorem dX0_coinWorth_38 : decode cX0_coinWorth 38 = .ok (.goto (-36), 3) := by decide +kernel
theorem dX0_coinWorth_41 : decode cX0_coinWorth 41 = .ok (.aload_n 0, 1) := by decide +kernel
theorem dX0_coinWorth_42 : decode cX0_coinWorth 42 = .ok (.getfield 19, 3) := by decide +kernel
theorem dX0_coinWorth_45 : decode cX0_coinWorth 45 = .ok (.aload_n 0, 1) := by decide +kernel
theorem dX0_coinWorth_46 : decode cX0_coinWorth 46 = .ok (.getfield 15, 3) := by decide +kernel
theorem dX0_coinWorth_49 : decode cX0_coinWorth 49 = .ok (.iconst 5, 1) := by decide +kernel
theorem dX0_coinWorth_50 : decode cX0_coinWorth 50 = .ok (.iload_n 1, 1) := by decide +kernel
theorem dX0_coinWorth_51 : decode cX0_coinWorth 51 = .ok (.invokevirtual 55, 3) := by decide +kernel
theorem dX0_coinWorth_54 : decode cX0_coinWorth 54 = .ok (.iconst 0, 1) := by decide +kernel
theorem dX0_coinWorth_55 : decode cX0_coinWorth 55 = .ok (.iconst 0, 1) := by decide +kernel
theorem dX0_coinWorth_56 : decode cX0_coinWorth 56 = .ok (.invokevirtual 62, 3) := by decide +kernel
theorem dX0_coinWorth_59 : decode cX0_coinWorth 59 = .ok (.aload_n 0, 1) := by decide +kernel
theorem dX0_coinWorth_60 : decode cX0_coinWorth 60 = .ok (.getfield 19, 3) := by decide +kernel
theorem dX0_coinWorth_63 : decode cX0_coinWorth 63 = .ok (.getfield 35, 3) := by decide +kernel
theorem dX0_coinWorth_66 : decode cX0_coinWorth 66 = .ok (.ireturn, 1) := by decide +kernel
theorem dX0_losers_0 : decode cX0_losers 0 = .ok (.iconst 0, 1) := by decide +kernel
theorem dX0_losers_1 : decode cX0_losers 1 = .ok (.istore_n 2, 1) := by decide +kernel
theorem dX0_losers_2 : decode cX0_losers 2 = .ok (.iconst 0, 1) := by decide +kernel
theorem dX0_losers_3 : decode cX0_losers 3 = .ok (.istore_n 3, 1) := by decide +kernel
theorem dX0_losers_4 : decode cX0_losers 4 = .ok (.iload_n 3, 1) := by decide +kernel
theorem dX0_losers_5 : decode cX0_losers 5 = .ok (.aload_n 0, 1) := by decide +kernel
theorem dX0_losers_6 : decode cX0_losers 6 = .ok (.getfield 15, 3) := by decide +kernel
theorem dX0_losers_9 : decode cX0_losers 9 = .ok (.getfield 65, 3) := by decide +kernel
theorem dX0_losers_12 : decode cX0_losers 12 = .ok (.if_icmp .ge 29, 3) := by decide +kernel
theorem dX0_losers_15 : decode cX0_losers 15 = .ok (.aload_n 0, 1) := by decide +kernel
theorem dX0_losers_16 : decode cX0_losers 16 = .ok (.iload_n 3, 1) := by decide +kernel
theorem dX0_losers_17 : decode cX0_losers 17 = .ok (.invokevirtual 93, 3) := by decide +kernel
theorem dX0_losers_20 : decode cX0_losers 20 = .ok (.aload_n 0, 1) := by decide +kernel
theorem dX0_losers_21 : decode cX0_losers 21 = .ok (.iload_n 3, 1) := by decide +kernel
theorem dX0_losers_22 : decode cX0_losers 22 = .ok (.iload_n 1, 1) := by decide +kernel
theorem dX0_losers_23 : decode cX0_losers 23 = .ok (.invokevirtual 96, 3) := by decide +kernel
theorem dX0_losers_26 : decode cX0_losers 26 = .ok (.if_icmp .ge 9, 3) := by decide +kernel
theorem dX0_losers_29 : decode cX0_losers 29 = .ok (.iload_n 2, 1) := by decide +kernel
theorem dX0_losers_30 : decode cX0_losers 30 = .ok (.iconst 1, 1) := by decide +kernel
theorem dX0_losers_31 : decode cX0_losers 31 = .ok (.iload_n 3, 1) := by decide +kernel
theorem dX0_losers_32 : decode cX0_losers 32 = .ok (.ishl, 1) := by decide +kernel
theorem dX0_losers_33 : decode cX0_losers 33 = .ok (.ior, 1) := by decide +kernel
theorem dX0_losers_34 : decode cX0_losers 34 = .ok (.istore_n 2, 1) := by decide +kernel
theorem dX0_losers_35 : decode cX0_losers 35 = .ok (.iinc 3 1, 3) := by decide +kernel
theorem dX0_losers_38 : decode cX0_losers 38 = .ok (.goto (-34), 3) := by decide +kernel
theorem dX0_losers_41 : decode cX0_losers 41 = .ok (.iload_n 2, 1) := by decide +kernel
theorem dX0_losers_42 : decode cX0_losers 42 = .ok (.ireturn, 1) := by decide +kernel
theorem dX0_live_0 : decode cX0_live 0 = .ok (.aload_n 0, 1) := by decide +kernel
theorem dX0_live_1 : decode cX0_live 1 = .ok (.getfield 19, 3) := by decide +kernel
theorem dX0_live_4 : decode cX0_live 4 = .ok (.invokevirtual 23, 3) := by decide +kernel
theorem dX0_live_7 : decode cX0_live 7 = .ok (.aload_n 0, 1) := by decide +kernel
theorem dX0_live_8 : decode cX0_live 8 = .ok (.getfield 19, 3) := by decide +kernel
theorem dX0_live_11 : decode cX0_live 11 = .ok (.iload_n 1, 1) := by decide +kernel
theorem dX0_live_12 : decode cX0_live 12 = .ok (.invokevirtual 28, 3) := by decide +kernel
theorem dX0_live_15 : decode cX0_live 15 = .ok (.aload_n 0, 1) := by decide +kernel
theorem dX0_live_16 : decode cX0_live 16 = .ok (.iconst 0, 1) := by decide +kernel
theorem dX0_live_17 : decode cX0_live 17 = .ok (.putfield 99, 3) := by decide +kernel
theorem dX0_live_20 : decode cX0_live 20 = .ok (.aload_n 0, 1) := by decide +kernel
theorem dX0_live_21 : decode cX0_live 21 = .ok (.iconst 0, 1) := by decide +kernel
theorem dX0_live_22 : decode cX0_live 22 = .ok (.putfield 102, 3) := by decide +kernel
theorem dX0_live_25 : decode cX0_live 25 = .ok (.iconst 0, 1) := by decide +kernel
theorem dX0_live_26 : decode cX0_live 26 = .ok (.istore 4, 2) := by decide +kernel
theorem dX0_live_28 : decode cX0_live 28 = .ok (.iconst 0, 1) := by decide +kernel
theorem dX0_live_29 : decode cX0_live 29 = .ok (.istore 5, 2) := by decide +kernel
theorem dX0_live_31 : decode cX0_live 31 = .ok (.iload 5, 2) := by decide +kernel
theorem dX0_live_33 : decode cX0_live 33 = .ok (.iload_n 2, 1) := by decide +kernel
theorem dX0_live_34 : decode cX0_live 34 = .ok (.if_icmp .ge 92, 3) := by decide +kernel
theorem dX0_live_37 : decode cX0_live 37 = .ok (.iload 4, 2) := by decide +kernel
theorem dX0_live_39 : decode cX0_live 39 = .ok (.iload_n 3, 1) := by decide +kernel
theorem dX0_live_40 : decode cX0_live 40 = .ok (.invokestatic 85, 3) := by decide +kernel
theorem dX0_live_43 : decode cX0_live 43 = .ok (.istore 6, 2) := by decide +kernel
theorem dX0_live_45 : decode cX0_live 45 = .ok (.aload_n 0, 1) := by decide +kernel
theorem dX0_live_46 : decode cX0_live 46 = .ok (.getfield 15, 3) := by decide +kernel
theorem dX0_live_49 : decode cX0_live 49 = .ok (.iload_n 1, 1) := by decide +kernel
theorem dX0_live_50 : decode cX0_live 50 = .ok (.invokevirtual 59, 3) := by decide +kernel
theorem dX0_live_53 : decode cX0_live 53 = .ok (.iload 6, 2) := by decide +kernel
theorem dX0_live_55 : decode cX0_live 55 = .ok (.iadd, 1) := by decide +kernel
theorem dX0_live_56 : decode cX0_live 56 = .ok (.istore 7, 2) := by decide +kernel
theorem dX0_live_58 : decode cX0_live 58 = .ok (.aload_n 0, 1) := by decide +kernel
theorem dX0_live_59 : decode cX0_live 59 = .ok (.getfield 19, 3) := by decide +kernel
theorem dX0_live_62 : decode cX0_live 62 = .ok (.aload_n 0, 1) := by decide +kernel
theorem dX0_live_63 : decode cX0_live 63 = .ok (.getfield 15, 3) := by decide +kernel
theorem dX0_live_66 : decode cX0_live 66 = .ok (.iconst 5, 1) := by decide +kernel
theorem dX0_live_67 : decode cX0_live 67 = .ok (.iload_n 1, 1) := by decide +kernel
theorem dX0_live_68 : decode cX0_live 68 = .ok (.invokevirtual 55, 3) := by decide +kernel
theorem dX0_live_71 : decode cX0_live 71 = .ok (.iload 7, 2) := by decide +kernel
theorem dX0_live_73 : decode cX0_live 73 = .ok (.bipush 100, 2) := by decide +kernel
theorem dX0_live_75 : decode cX0_live 75 = .ok (.invokevirtual 62, 3) := by decide +kernel
theorem dX0_live_78 : decode cX0_live 78 = .ok (.aload_n 0, 1) := by decide +kernel
theorem dX0_live_79 : decode cX0_live 79 = .ok (.dup, 1) := by decide +kernel
theorem dX0_live_80 : decode cX0_live 80 = .ok (.getfield 99, 3) := by decide +kernel
theorem dX0_live_83 : decode cX0_live 83 = .ok (.aload_n 0, 1) := by decide +kernel
theorem dX0_live_84 : decode cX0_live 84 = .ok (.getfield 19, 3) := by decide +kernel
theorem dX0_live_87 : decode cX0_live 87 = .ok (.getfield 35, 3) := by decide +kernel
theorem dX0_live_90 : decode cX0_live 90 = .ok (.iadd, 1) := by decide +kernel
theorem dX0_live_91 : decode cX0_live 91 = .ok (.putfield 99, 3) := by decide +kernel
theorem dX0_live_94 : decode cX0_live 94 = .ok (.aload_n 0, 1) := by decide +kernel
theorem dX0_live_95 : decode cX0_live 95 = .ok (.dup, 1) := by decide +kernel
theorem dX0_live_96 : decode cX0_live 96 = .ok (.getfield 102, 3) := by decide +kernel
theorem dX0_live_99 : decode cX0_live 99 = .ok (.iload 4, 2) := by decide +kernel
theorem dX0_live_101 : decode cX0_live 101 = .ok (.iload 6, 2) := by decide +kernel
theorem dX0_live_103 : decode cX0_live 103 = .ok (.isub, 1) := by decide +kernel
theorem dX0_live_104 : decode cX0_live 104 = .ok (.iadd, 1) := by decide +kernel
theorem dX0_live_105 : decode cX0_live 105 = .ok (.putfield 102, 3) := by decide +kernel
theorem dX0_live_108 : decode cX0_live 108 = .ok (.iload 7, 2) := by decide +kernel
theorem dX0_live_110 : decode cX0_live 110 = .ok (.aload_n 0, 1) := by decide +kernel
theorem dX0_live_111 : decode cX0_live 111 = .ok (.getfield 19, 3) := by decide +kernel
theorem dX0_live_114 : decode cX0_live 114 = .ok (.getfield 72, 3) := by decide +kernel
theorem dX0_live_117 : decode cX0_live 117 = .ok (.isub, 1) := by decide +kernel
theorem dX0_live_118 : decode cX0_live 118 = .ok (.istore 4, 2) := by decide +kernel
theorem dX0_live_120 : decode cX0_live 120 = .ok (.iinc 5 1, 3) := by decide +kernel
theorem dX0_live_123 : decode cX0_live 123 = .ok (.goto (-92), 3) := by decide +kernel
theorem dX0_live_126 : decode cX0_live 126 = .ok (.aload_n 0, 1) := by decide +kernel
theorem dX0_live_127 : decode cX0_live 127 = .ok (.dup, 1) := by decide +kernel
theorem dX0_live_128 : decode cX0_live 128 = .ok (.getfield 102, 3) := by decide +kernel
theorem dX0_live_131 : decode cX0_live 131 = .ok (.iload 4, 2) := by decide +kernel
theorem dX0_live_133 : decode cX0_live 133 = .ok (.iadd, 1) := by decide +kernel
theorem dX0_live_134 : decode cX0_live 134 = .ok (.putfield 102, 3) := by decide +kernel
theorem dX0_live_137 : decode cX0_live 137 = .ok (.return_, 1) := by decide +kernel
theorem dX0_gainByForesight_0 : decode cX0_gainByForesight 0 = .ok (.aload_n 0, 1) := by decide +kernel
theorem dX0_gainByForesight_1 : decode cX0_gainByForesight 1 = .ok (.iload_n 1, 1) := by decide +kernel
theorem dX0_gainByForesight_2 : decode cX0_gainByForesight 2 = .ok (.invokevirtual 93, 3) := by decide +kernel
theorem dX0_gainByForesight_5 : decode cX0_gainByForesight 5 = .ok (.istore_n 2, 1) := by decide +kernel
theorem dX0_gainByForesight_6 : decode cX0_gainByForesight 6 = .ok (.sipush 129, 3) := by decide +kernel
theorem dX0_gainByForesight_9 : decode cX0_gainByForesight 9 = .ok (.aload_n 0, 1) := by decide +kernel
theorem dX0_gainByForesight_10 : decode cX0_gainByForesight 10 = .ok (.getfield 15, 3) := by decide +kernel
theorem dX0_gainByForesight_13 : decode cX0_gainByForesight 13 = .ok (.iload_n 1, 1) := by decide +kernel
theorem dX0_gainByForesight_14 : decode cX0_gainByForesight 14 = .ok (.invokevirtual 59, 3) := by decide +kernel
theorem dX0_gainByForesight_17 : decode cX0_gainByForesight 17 = .ok (.invokestatic 85, 3) := by decide +kernel
theorem dX0_gainByForesight_20 : decode cX0_gainByForesight 20 = .ok (.istore_n 3, 1) := by decide +kernel
theorem dX0_gainByForesight_21 : decode cX0_gainByForesight 21 = .ok (.aload_n 0, 1) := by decide +kernel
theorem dX0_gainByForesight_22 : decode cX0_gainByForesight 22 = .ok (.aload_n 0, 1) := by decide +kernel
theorem dX0_gainByForesight_23 : decode cX0_gainByForesight 23 = .ok (.getfield 15, 3) := by decide +kernel
theorem dX0_gainByForesight_26 : decode cX0_gainByForesight 26 = .ok (.iconst 5, 1) := by decide +kernel
theorem dX0_gainByForesight_27 : decode cX0_gainByForesight 27 = .ok (.iload_n 1, 1) := by decide +kernel
theorem dX0_gainByForesight_28 : decode cX0_gainByForesight 28 = .ok (.invokevirtual 55, 3) := by decide +kernel
theorem dX0_gainByForesight_31 : decode cX0_gainByForesight 31 = .ok (.invokevirtual 105, 3) := by decide +kernel
theorem dX0_gainByForesight_34 : decode cX0_gainByForesight 34 = .ok (.iconst 0, 1) := by decide +kernel
theorem dX0_gainByForesight_35 : decode cX0_gainByForesight 35 = .ok (.istore 4, 2) := by decide +kernel
theorem dX0_gainByForesight_37 : decode cX0_gainByForesight 37 = .ok (.iconst 0, 1) := by decide +kernel
theorem dX0_gainByForesight_38 : decode cX0_gainByForesight 38 = .ok (.istore 5, 2) := by decide +kernel
theorem dX0_gainByForesight_40 : decode cX0_gainByForesight 40 = .ok (.iload 5, 2) := by decide +kernel
theorem dX0_gainByForesight_42 : decode cX0_gainByForesight 42 = .ok (.iload_n 3, 1) := by decide +kernel
theorem dX0_gainByForesight_43 : decode cX0_gainByForesight 43 = .ok (.if_icmp .gt 35, 3) := by decide +kernel
theorem dX0_gainByForesight_46 : decode cX0_gainByForesight 46 = .ok (.iload 4, 2) := by decide +kernel
theorem dX0_gainByForesight_48 : decode cX0_gainByForesight 48 = .ok (.aload_n 0, 1) := by decide +kernel
theorem dX0_gainByForesight_49 : decode cX0_gainByForesight 49 = .ok (.getfield 9, 3) := by decide +kernel
theorem dX0_gainByForesight_52 : decode cX0_gainByForesight 52 = .ok (.iload 5, 2) := by decide +kernel
theorem dX0_gainByForesight_54 : decode cX0_gainByForesight 54 = .ok (.iaload, 1) := by decide +kernel
theorem dX0_gainByForesight_55 : decode cX0_gainByForesight 55 = .ok (.aload_n 0, 1) := by decide +kernel
theorem dX0_gainByForesight_56 : decode cX0_gainByForesight 56 = .ok (.getfield 9, 3) := by decide +kernel
theorem dX0_gainByForesight_59 : decode cX0_gainByForesight 59 = .ok (.iconst 2, 1) := by decide +kernel
theorem dX0_gainByForesight_60 : decode cX0_gainByForesight 60 = .ok (.iload_n 3, 1) := by decide +kernel
theorem dX0_gainByForesight_61 : decode cX0_gainByForesight 61 = .ok (.imul, 1) := by decide +kernel
theorem dX0_gainByForesight_62 : decode cX0_gainByForesight 62 = .ok (.iload 5, 2) := by decide +kernel
theorem dX0_gainByForesight_64 : decode cX0_gainByForesight 64 = .ok (.isub, 1) := by decide +kernel
theorem dX0_gainByForesight_65 : decode cX0_gainByForesight 65 = .ok (.iaload, 1) := by decide +kernel
theorem dX0_gainByForesight_66 : decode cX0_gainByForesight 66 = .ok (.iadd, 1) := by decide +kernel
theorem dX0_gainByForesight_67 : decode cX0_gainByForesight 67 = .ok (.invokestatic 108, 3) := by decide +kernel
theorem dX0_gainByForesight_70 : decode cX0_gainByForesight 70 = .ok (.istore 4, 2) := by decide +kernel
theorem dX0_gainByForesight_72 : decode cX0_gainByForesight 72 = .ok (.iinc 5 1, 3) := by decide +kernel
theorem dX0_gainByForesight_75 : decode cX0_gainByForesight 75 = .ok (.goto (-35), 3) := by decide +kernel
theorem dX0_gainByForesight_78 : decode cX0_gainByForesight 78 = .ok (.iload 4, 2) := by decide +kernel
theorem dX0_gainByForesight_80 : decode cX0_gainByForesight 80 = .ok (.iconst 2, 1) := by decide +kernel
theorem dX0_gainByForesight_81 : decode cX0_gainByForesight 81 = .ok (.iload_n 2, 1) := by decide +kernel
theorem dX0_gainByForesight_82 : decode cX0_gainByForesight 82 = .ok (.imul, 1) := by decide +kernel
theorem dX0_gainByForesight_83 : decode cX0_gainByForesight 83 = .ok (.isub, 1) := by decide +kernel
theorem dX0_gainByForesight_84 : decode cX0_gainByForesight 84 = .ok (.ireturn, 1) := by decide +kernel
theorem dX0_reachAll_0 : decode cX0_reachAll 0 = .ok (.iconst 0, 1) := by decide +kernel
theorem dX0_reachAll_1 : decode cX0_reachAll 1 = .ok (.istore_n 2, 1) := by decide +kernel
theorem dX0_reachAll_2 : decode cX0_reachAll 2 = .ok (.iload_n 2, 1) := by decide +kernel
theorem dX0_reachAll_3 : decode cX0_reachAll 3 = .ok (.aload_n 0, 1) := by decide +kernel
theorem dX0_reachAll_4 : decode cX0_reachAll 4 = .ok (.getfield 9, 3) := by decide +kernel
theorem dX0_reachAll_7 : decode cX0_reachAll 7 = .ok (.arraylength, 1) := by decide +kernel
theorem dX0_reachAll_8 : decode cX0_reachAll 8 = .ok (.if_icmp .ge 16, 3) := by decide +kernel
theorem dX0_reachAll_11 : decode cX0_reachAll 11 = .ok (.aload_n 0, 1) := by decide +kernel
theorem dX0_reachAll_12 : decode cX0_reachAll 12 = .ok (.getfield 9, 3) := by decide +kernel
theorem dX0_reachAll_15 : decode cX0_reachAll 15 = .ok (.iload_n 2, 1) := by decide +kernel
theorem dX0_reachAll_16 : decode cX0_reachAll 16 = .ok (.iconst 0, 1) := by decide +kernel
theorem dX0_reachAll_17 : decode cX0_reachAll 17 = .ok (.iastore, 1) := by decide +kernel
theorem dX0_reachAll_18 : decode cX0_reachAll 18 = .ok (.iinc 2 1, 3) := by decide +kernel
theorem dX0_reachAll_21 : decode cX0_reachAll 21 = .ok (.goto (-19), 3) := by decide +kernel
theorem dX0_reachAll_24 : decode cX0_reachAll 24 = .ok (.aload_n 0, 1) := by decide +kernel
theorem dX0_reachAll_25 : decode cX0_reachAll 25 = .ok (.iconst 0, 1) := by decide +kernel
theorem dX0_reachAll_26 : decode cX0_reachAll 26 = .ok (.iconst 0, 1) := by decide +kernel
theorem dX0_reachAll_27 : decode cX0_reachAll 27 = .ok (.iload_n 1, 1) := by decide +kernel
theorem dX0_reachAll_28 : decode cX0_reachAll 28 = .ok (.iconst 0, 1) := by decide +kernel
theorem dX0_reachAll_29 : decode cX0_reachAll 29 = .ok (.invokestatic 111, 3) := by decide +kernel
theorem dX0_reachAll_32 : decode cX0_reachAll 32 = .ok (.iconst 1, 1) := by decide +kernel
theorem dX0_reachAll_33 : decode cX0_reachAll 33 = .ok (.istore_n 2, 1) := by decide +kernel
theorem dX0_reachAll_34 : decode cX0_reachAll 34 = .ok (.iload_n 2, 1) := by decide +kernel
theorem dX0_reachAll_35 : decode cX0_reachAll 35 = .ok (.aload_n 0, 1) := by decide +kernel
theorem dX0_reachAll_36 : decode cX0_reachAll 36 = .ok (.getfield 9, 3) := by decide +kernel
theorem dX0_reachAll_39 : decode cX0_reachAll 39 = .ok (.arraylength, 1) := by decide +kernel
theorem dX0_reachAll_40 : decode cX0_reachAll 40 = .ok (.if_icmp .ge 32, 3) := by decide +kernel
theorem dX0_reachAll_43 : decode cX0_reachAll 43 = .ok (.aload_n 0, 1) := by decide +kernel
theorem dX0_reachAll_44 : decode cX0_reachAll 44 = .ok (.getfield 9, 3) := by decide +kernel
theorem dX0_reachAll_47 : decode cX0_reachAll 47 = .ok (.iload_n 2, 1) := by decide +kernel
theorem dX0_reachAll_48 : decode cX0_reachAll 48 = .ok (.aload_n 0, 1) := by decide +kernel
theorem dX0_reachAll_49 : decode cX0_reachAll 49 = .ok (.getfield 9, 3) := by decide +kernel
theorem dX0_reachAll_52 : decode cX0_reachAll 52 = .ok (.iload_n 2, 1) := by decide +kernel
theorem dX0_reachAll_53 : decode cX0_reachAll 53 = .ok (.iaload, 1) := by decide +kernel
theorem dX0_reachAll_54 : decode cX0_reachAll 54 = .ok (.aload_n 0, 1) := by decide +kernel
theorem dX0_reachAll_55 : decode cX0_reachAll 55 = .ok (.getfield 9, 3) := by decide +kernel
theorem dX0_reachAll_58 : decode cX0_reachAll 58 = .ok (.iload_n 2, 1) := by decide +kernel
theorem dX0_reachAll_59 : decode cX0_reachAll 59 = .ok (.iconst 1, 1) := by decide +kernel
theorem dX0_reachAll_60 : decode cX0_reachAll 60 = .ok (.isub, 1) := by decide +kernel
theorem dX0_reachAll_61 : decode cX0_reachAll 61 = .ok (.iaload, 1) := by decide +kernel
theorem dX0_reachAll_62 : decode cX0_reachAll 62 = .ok (.invokestatic 108, 3) := by decide +kernel
theorem dX0_reachAll_65 : decode cX0_reachAll 65 = .ok (.iastore, 1) := by decide +kernel
theorem dX0_reachAll_66 : decode cX0_reachAll 66 = .ok (.iinc 2 1, 3) := by decide +kernel
theorem dX0_reachAll_69 : decode cX0_reachAll 69 = .ok (.goto (-35), 3) := by decide +kernel
theorem dX0_reachAll_72 : decode cX0_reachAll 72 = .ok (.return_, 1) := by decide +kernel
theorem dX0_spread_0 : decode cX0_spread 0 = .ok (.iload_n 3, 1) := by decide +kernel
theorem dX0_spread_1 : decode cX0_spread 1 = .ok (.ifCond .lt 13, 3) := by decide +kernel
theorem dX0_spread_4 : decode cX0_spread 4 = .ok (.iload 4, 2) := by decide +kernel
theorem dX0_spread_6 : decode cX0_spread 6 = .ok (.aload_n 0, 1) := by decide +kernel
theorem dX0_spread_7 : decode cX0_spread 7 = .ok (.getfield 9, 3) := by decide +kernel
theorem dX0_spread_10 : decode cX0_spread 10 = .ok (.arraylength, 1) := by decide +kernel
theorem dX0_spread_11 : decode cX0_spread 11 = .ok (.if_icmp .lt 4, 3) := by decide +kernel
theorem dX0_spread_14 : decode cX0_spread 14 = .ok (.return_, 1) := by decide +kernel
theorem dX0_spread_15 : decode cX0_spread 15 = .ok (.iload_n 1, 1) := by decide +kernel
theorem dX0_spread_16 : decode cX0_spread 16 = .ok (.aload_n 0, 1) := by decide +kernel
theorem dX0_spread_17 : decode cX0_spread 17 = .ok (.getfield 15, 3) := by decide +kernel
theorem dX0_spread_20 : decode cX0_spread 20 = .ok (.getfield 39, 3) := by decide +kernel
theorem dX0_spread_23 : decode cX0_spread 23 = .ok (.if_icmp .ge 9, 3) := by decide +kernel
theorem dX0_spread_26 : decode cX0_spread 26 = .ok (.iload_n 1, 1) := by decide +kernel
theorem dX0_spread_27 : decode cX0_spread 27 = .ok (.bipush 6, 2) := by decide +kernel
theorem dX0_spread_29 : decode cX0_spread 29 = .ok (.if_icmp .lt 22, 3) := by decide +kernel
theorem dX0_spread_32 : decode cX0_spread 32 = .ok (.aload_n 0, 1) := by decide +kernel
theorem dX0_spread_33 : decode cX0_spread 33 = .ok (.getfield 9, 3) := by decide +kernel
theorem dX0_spread_36 : decode cX0_spread 36 = .ok (.iload 4, 2) := by decide +kernel
theorem dX0_spread_38 : decode cX0_spread 38 = .ok (.aload_n 0, 1) := by decide +kernel
theorem dX0_spread_39 : decode cX0_spread 39 = .ok (.getfield 9, 3) := by decide +kernel
theorem dX0_spread_42 : decode cX0_spread 42 = .ok (.iload 4, 2) := by decide +kernel
theorem dX0_spread_44 : decode cX0_spread 44 = .ok (.iaload, 1) := by decide +kernel
theorem dX0_spread_45 : decode cX0_spread 45 = .ok (.iload_n 2, 1) := by decide +kernel
theorem dX0_spread_46 : decode cX0_spread 46 = .ok (.invokestatic 108, 3) := by decide +kernel
theorem dX0_spread_49 : decode cX0_spread 49 = .ok (.iastore, 1) := by decide +kernel
theorem dX0_spread_50 : decode cX0_spread 50 = .ok (.return_, 1) := by decide +kernel
theorem dX0_spread_51 : decode cX0_spread 51 = .ok (.aload_n 0, 1) := by decide +kernel
theorem dX0_spread_52 : decode cX0_spread 52 = .ok (.getfield 19, 3) := by decide +kernel
theorem dX0_spread_55 : decode cX0_spread 55 = .ok (.iload_n 1, 1) := by decide +kernel
theorem dX0_spread_56 : decode cX0_spread 56 = .ok (.invokevirtual 48, 3) := by decide +kernel
theorem dX0_spread_59 : decode cX0_spread 59 = .ok (.istore 5, 2) := by decide +kernel
theorem dX0_spread_61 : decode cX0_spread 61 = .ok (.aload_n 0, 1) := by decide +kernel
theorem dX0_spread_62 : decode cX0_spread 62 = .ok (.getfield 19, 3) := by decide +kernel
theorem dX0_spread_65 : decode cX0_spread 65 = .ok (.iload_n 1, 1) := by decide +kernel
theorem dX0_spread_66 : decode cX0_spread 66 = .ok (.invokevirtual 44, 3) := by decide +kernel
theorem dX0_spread_69 : decode cX0_spread 69 = .ok (.istore 6, 2) := by decide +kernel
theorem dX0_spread_71 : decode cX0_spread 71 = .ok (.iconst 0, 1) := by decide +kernel
theorem dX0_spread_72 : decode cX0_spread 72 = .ok (.istore 7, 2) := by decide +kernel
theorem dX0_spread_74 : decode cX0_spread 74 = .ok (.iload 7, 2) := by decide +kernel
theorem dX0_spread_76 : decode cX0_spread 76 = .ok (.iconst 3, 1) := by decide +kernel
theorem dX0_spread_77 : decode cX0_spread 77 = .ok (.if_icmp .gt 47, 3) := by decide +kernel
theorem dX0_spread_80 : decode cX0_spread 80 = .ok (.aload_n 0, 1) := by decide +kernel
theorem dX0_spread_81 : decode cX0_spread 81 = .ok (.getfield 19, 3) := by decide +kernel
theorem dX0_spread_84 : decode cX0_spread 84 = .ok (.iload_n 1, 1) := by decide +kernel
theorem dX0_spread_85 : decode cX0_spread 85 = .ok (.iload 7, 2) := by decide +kernel
theorem dX0_spread_87 : decode cX0_spread 87 = .ok (.invokevirtual 90, 3) := by decide +kernel
theorem dX0_spread_90 : decode cX0_spread 90 = .ok (.istore 8, 2) := by decide +kernel
theorem dX0_spread_92 : decode cX0_spread 92 = .ok (.aload_n 0, 1) := by decide +kernel
theorem dX0_spread_93 : decode cX0_spread 93 = .ok (.iload_n 1, 1) := by decide +kernel
theorem dX0_spread_94 : decode cX0_spread 94 = .ok (.iconst 1, 1) := by decide +kernel
theorem dX0_spread_95 : decode cX0_spread 95 = .ok (.iadd, 1) := by decide +kernel
theorem dX0_spread_96 : decode cX0_spread 96 = .ok (.iload_n 2, 1) := by decide +kernel
theorem dX0_spread_97 : decode cX0_spread 97 = .ok (.iload 8, 2) := by decide +kernel
theorem dX0_spread_99 : decode cX0_spread 99 = .ok (.iadd, 1) := by decide +kernel
theorem dX0_spread_100 : decode cX0_spread 100 = .ok (.iload_n 3, 1) := by decide +kernel
theorem dX0_spread_101 : decode cX0_spread 101 = .ok (.iload 7, 2) := by decide +kernel
theorem dX0_spread_103 : decode cX0_spread 103 = .ok (.iload 5, 2) := by decide +kernel
theorem dX0_spread_105 : decode cX0_spread 105 = .ok (.imul, 1) := by decide +kernel
theorem dX0_spread_106 : decode cX0_spread 106 = .ok (.isub, 1) := by decide +kernel
theorem dX0_spread_107 : decode cX0_spread 107 = .ok (.iload 4, 2) := by decide +kernel
theorem dX0_spread_109 : decode cX0_spread 109 = .ok (.iload 7, 2) := by decide +kernel
theorem dX0_spread_111 : decode cX0_spread 111 = .ok (.iload 6, 2) := by decide +kernel
theorem dX0_spread_113 : decode cX0_spread 113 = .ok (.imul, 1) := by decide +kernel
theorem dX0_spread_114 : decode cX0_spread 114 = .ok (.iadd, 1) := by decide +kernel
theorem dX0_spread_115 : decode cX0_spread 115 = .ok (.invokestatic 111, 3) := by decide +kernel
theorem dX0_spread_118 : decode cX0_spread 118 = .ok (.iinc 7 1, 3) := by decide +kernel
theorem dX0_spread_121 : decode cX0_spread 121 = .ok (.goto (-47), 3) := by decide +kernel
theorem dX0_spread_124 : decode cX0_spread 124 = .ok (.return_, 1) := by decide +kernel
theorem dX1_init_0 : decode cX1_init 0 = .ok (.aload_n 0, 1) := by decide +kernel
theorem dX1_init_1 : decode cX1_init 1 = .ok (.invokespecial 3, 3) := by decide +kernel
theorem dX1_init_4 : decode cX1_init 4 = .ok (.aload_n 0, 1) := by decide +kernel
theorem dX1_init_5 : decode cX1_init 5 = .ok (.bipush 40, 2) := by decide +kernel
theorem dX1_init_7 : decode cX1_init 7 = .ok (.newarray .int, 2) := by decide +kernel
theorem dX1_init_9 : decode cX1_init 9 = .ok (.putfield 9, 3) := by decide +kernel
theorem dX1_init_12 : decode cX1_init 12 = .ok (.aload_n 0, 1) := by decide +kernel
theorem dX1_init_13 : decode cX1_init 13 = .ok (.bipush 40, 2) := by decide +kernel
theorem dX1_init_15 : decode cX1_init 15 = .ok (.newarray .int, 2) := by decide +kernel
theorem dX1_init_17 : decode cX1_init 17 = .ok (.putfield 15, 3) := by decide +kernel
theorem dX1_init_20 : decode cX1_init 20 = .ok (.aload_n 0, 1) := by decide +kernel
theorem dX1_init_21 : decode cX1_init 21 = .ok (.bipush 40, 2) := by decide +kernel
theorem dX1_init_23 : decode cX1_init 23 = .ok (.newarray .int, 2) := by decide +kernel
theorem dX1_init_25 : decode cX1_init 25 = .ok (.putfield 18, 3) := by decide +kernel
theorem dX1_init_28 : decode cX1_init 28 = .ok (.aload_n 0, 1) := by decide +kernel
theorem dX1_init_29 : decode cX1_init 29 = .ok (.bipush 40, 2) := by decide +kernel
theorem dX1_init_31 : decode cX1_init 31 = .ok (.newarray .int, 2) := by decide +kernel
theorem dX1_init_33 : decode cX1_init 33 = .ok (.putfield 21, 3) := by decide +kernel
theorem dX1_init_36 : decode cX1_init 36 = .ok (.aload_n 0, 1) := by decide +kernel
theorem dX1_init_37 : decode cX1_init 37 = .ok (.aload_n 1, 1) := by decide +kernel
theorem dX1_init_38 : decode cX1_init 38 = .ok (.putfield 24, 3) := by decide +kernel
theorem dX1_init_41 : decode cX1_init 41 = .ok (.return_, 1) := by decide +kernel
theorem dX1_change_0 : decode cX1_change 0 = .ok (.aload_n 0, 1) := by decide +kernel
theorem dX1_change_1 : decode cX1_change 1 = .ok (.getfield 24, 3) := by decide +kernel
theorem dX1_change_4 : decode cX1_change 4 = .ok (.iload_n 1, 1) := by decide +kernel
theorem dX1_change_5 : decode cX1_change 5 = .ok (.iload_n 2, 1) := by decide +kernel
theorem dX1_change_6 : decode cX1_change 6 = .ok (.invokevirtual 28, 3) := by decide +kernel
theorem dX1_change_9 : decode cX1_change 9 = .ok (.istore 4, 2) := by decide +kernel
theorem dX1_change_11 : decode cX1_change 11 = .ok (.iload 4, 2) := by decide +kernel
theorem dX1_change_13 : decode cX1_change 13 = .ok (.iload_n 3, 1) := by decide +kernel
theorem dX1_change_14 : decode cX1_change 14 = .ok (.if_icmp .eq 22, 3) := by decide +kernel
theorem dX1_change_17 : decode cX1_change 17 = .ok (.aload_n 0, 1) := by decide +kernel
theorem dX1_change_18 : decode cX1_change 18 = .ok (.iload_n 1, 1) := by decide +kernel
theorem dX1_change_19 : decode cX1_change 19 = .ok (.iload_n 2, 1) := by decide +kernel
theorem dX1_change_20 : decode cX1_change 20 = .ok (.iload 4, 2) := by decide +kernel
theorem dX1_change_22 : decode cX1_change 22 = .ok (.iload_n 3, 1) := by decide +kernel
theorem dX1_change_23 : decode cX1_change 23 = .ok (.invokevirtual 34, 3) := by decide +kernel
theorem dX1_change_26 : decode cX1_change 26 = .ok (.aload_n 0, 1) := by decide +kernel
theorem dX1_change_27 : decode cX1_change 27 = .ok (.getfield 24, 3) := by decide +kernel
theorem dX1_change_30 : decode cX1_change 30 = .ok (.iload_n 1, 1) := by decide +kernel
theorem dX1_change_31 : decode cX1_change 31 = .ok (.iload_n 2, 1) := by decide +kernel
theorem dX1_change_32 : decode cX1_change 32 = .ok (.iload_n 3, 1) := by decide +kernel
theorem dX1_change_33 : decode cX1_change 33 = .ok (.invokevirtual 38, 3) := by decide +kernel
theorem dX1_change_36 : decode cX1_change 36 = .ok (.iload 4, 2) := by decide +kernel
theorem dX1_change_38 : decode cX1_change 38 = .ok (.ireturn, 1) := by decide +kernel
theorem dX1_goBack_0 : decode cX1_goBack 0 = .ok (.aload_n 0, 1) := by decide +kernel
theorem dX1_goBack_1 : decode cX1_goBack 1 = .ok (.getfield 42, 3) := by decide +kernel
theorem dX1_goBack_4 : decode cX1_goBack 4 = .ok (.ifCond .gt 6, 3) := by decide +kernel
theorem dX1_goBack_7 : decode cX1_goBack 7 = .ok (.bipush (-5), 2) := by decide +kernel
theorem dX1_goBack_9 : decode cX1_goBack 9 = .ok (.ireturn, 1) := by decide +kernel
theorem dX1_goBack_10 : decode cX1_goBack 10 = .ok (.aload_n 0, 1) := by decide +kernel
theorem dX1_goBack_11 : decode cX1_goBack 11 = .ok (.dup, 1) := by decide +kernel
theorem dX1_goBack_12 : decode cX1_goBack 12 = .ok (.getfield 42, 3) := by decide +kernel
theorem dX1_goBack_15 : decode cX1_goBack 15 = .ok (.iconst 1, 1) := by decide +kernel
theorem dX1_goBack_16 : decode cX1_goBack 16 = .ok (.isub, 1) := by decide +kernel
theorem dX1_goBack_17 : decode cX1_goBack 17 = .ok (.putfield 42, 3) := by decide +kernel
theorem dX1_goBack_20 : decode cX1_goBack 20 = .ok (.aload_n 0, 1) := by decide +kernel
theorem dX1_goBack_21 : decode cX1_goBack 21 = .ok (.dup, 1) := by decide +kernel
theorem dX1_goBack_22 : decode cX1_goBack 22 = .ok (.getfield 46, 3) := by decide +kernel
theorem dX1_goBack_25 : decode cX1_goBack 25 = .ok (.iconst 1, 1) := by decide +kernel
theorem dX1_goBack_26 : decode cX1_goBack 26 = .ok (.iadd, 1) := by decide +kernel
theorem dX1_goBack_27 : decode cX1_goBack 27 = .ok (.putfield 46, 3) := by decide +kernel
theorem dX1_goBack_30 : decode cX1_goBack 30 = .ok (.aload_n 0, 1) := by decide +kernel
theorem dX1_goBack_31 : decode cX1_goBack 31 = .ok (.getfield 24, 3) := by decide +kernel
theorem dX1_goBack_34 : decode cX1_goBack 34 = .ok (.aload_n 0, 1) := by decide +kernel
theorem dX1_goBack_35 : decode cX1_goBack 35 = .ok (.getfield 9, 3) := by decide +kernel
theorem dX1_goBack_38 : decode cX1_goBack 38 = .ok (.aload_n 0, 1) := by decide +kernel
theorem dX1_goBack_39 : decode cX1_goBack 39 = .ok (.getfield 42, 3) := by decide +kernel
theorem dX1_goBack_42 : decode cX1_goBack 42 = .ok (.iaload, 1) := by decide +kernel
theorem dX1_goBack_43 : decode cX1_goBack 43 = .ok (.aload_n 0, 1) := by decide +kernel
theorem dX1_goBack_44 : decode cX1_goBack 44 = .ok (.getfield 15, 3) := by decide +kernel
theorem dX1_goBack_47 : decode cX1_goBack 47 = .ok (.aload_n 0, 1) := by decide +kernel
theorem dX1_goBack_48 : decode cX1_goBack 48 = .ok (.getfield 42, 3) := by decide +kernel
theorem dX1_goBack_51 : decode cX1_goBack 51 = .ok (.iaload, 1) := by decide +kernel
theorem dX1_goBack_52 : decode cX1_goBack 52 = .ok (.aload_n 0, 1) := by decide +kernel
theorem dX1_goBack_53 : decode cX1_goBack 53 = .ok (.getfield 18, 3) := by decide +kernel
theorem dX1_goBack_56 : decode cX1_goBack 56 = .ok (.aload_n 0, 1) := by decide +kernel
theorem dX1_goBack_57 : decode cX1_goBack 57 = .ok (.getfield 42, 3) := by decide +kernel
theorem dX1_goBack_60 : decode cX1_goBack 60 = .ok (.iaload, 1) := by decide +kernel
theorem dX1_goBack_61 : decode cX1_goBack 61 = .ok (.invokevirtual 38, 3) := by decide +kernel
theorem dX1_goBack_64 : decode cX1_goBack 64 = .ok (.aload_n 0, 1) := by decide +kernel
theorem dX1_goBack_65 : decode cX1_goBack 65 = .ok (.getfield 42, 3) := by decide +kernel
theorem dX1_goBack_68 : decode cX1_goBack 68 = .ok (.ireturn, 1) := by decide +kernel
theorem dX1_goOn_0 : decode cX1_goOn 0 = .ok (.aload_n 0, 1) := by decide +kernel
theorem dX1_goOn_1 : decode cX1_goOn 1 = .ok (.getfield 46, 3) := by decide +kernel
theorem dX1_goOn_4 : decode cX1_goOn 4 = .ok (.ifCond .le 12, 3) := by decide +kernel
theorem dX1_goOn_7 : decode cX1_goOn 7 = .ok (.aload_n 0, 1) := by decide +kernel
theorem dX1_goOn_8 : decode cX1_goOn 8 = .ok (.getfield 42, 3) := by decide +kernel
theorem dX1_goOn_11 : decode cX1_goOn 11 = .ok (.bipush 40, 2) := by decide +kernel
theorem dX1_goOn_13 : decode cX1_goOn 13 = .ok (.if_icmp .lt 6, 3) := by decide +kernel
theorem dX1_goOn_16 : decode cX1_goOn 16 = .ok (.bipush (-5), 2) := by decide +kernel
theorem dX1_goOn_18 : decode cX1_goOn 18 = .ok (.ireturn, 1) := by decide +kernel
theorem dX1_goOn_19 : decode cX1_goOn 19 = .ok (.aload_n 0, 1) := by decide +kernel
theorem dX1_goOn_20 : decode cX1_goOn 20 = .ok (.getfield 24, 3) := by decide +kernel
theorem dX1_goOn_23 : decode cX1_goOn 23 = .ok (.aload_n 0, 1) := by decide +kernel
theorem dX1_goOn_24 : decode cX1_goOn 24 = .ok (.getfield 9, 3) := by decide +kernel
theorem dX1_goOn_27 : decode cX1_goOn 27 = .ok (.aload_n 0, 1) := by decide +kernel
theorem dX1_goOn_28 : decode cX1_goOn 28 = .ok (.getfield 42, 3) := by decide +kernel
theorem dX1_goOn_31 : decode cX1_goOn 31 = .ok (.iaload, 1) := by decide +kernel
theorem dX1_goOn_32 : decode cX1_goOn 32 = .ok (.aload_n 0, 1) := by decide +kernel
theorem dX1_goOn_33 : decode cX1_goOn 33 = .ok (.getfield 15, 3) := by decide +kernel
theorem dX1_goOn_36 : decode cX1_goOn 36 = .ok (.aload_n 0, 1) := by decide +kernel
theorem dX1_goOn_37 : decode cX1_goOn 37 = .ok (.getfield 42, 3) := by decide +kernel
theorem dX1_goOn_40 : decode cX1_goOn 40 = .ok (.iaload, 1) := by decide +kernel
theorem dX1_goOn_41 : decode cX1_goOn 41 = .ok (.aload_n 0, 1) := by decide +kernel
theorem dX1_goOn_42 : decode cX1_goOn 42 = .ok (.getfield 21, 3) := by decide +kernel
theorem dX1_goOn_45 : decode cX1_goOn 45 = .ok (.aload_n 0, 1) := by decide +kernel
theorem dX1_goOn_46 : decode cX1_goOn 46 = .ok (.getfield 42, 3) := by decide +kernel
theorem dX1_goOn_49 : decode cX1_goOn 49 = .ok (.iaload, 1) := by decide +kernel
theorem dX1_goOn_50 : decode cX1_goOn 50 = .ok (.invokevirtual 38, 3) := by decide +kernel
theorem dX1_goOn_53 : decode cX1_goOn 53 = .ok (.aload_n 0, 1) := by decide +kernel
theorem dX1_goOn_54 : decode cX1_goOn 54 = .ok (.dup, 1) := by decide +kernel
theorem dX1_goOn_55 : decode cX1_goOn 55 = .ok (.getfield 42, 3) := by decide +kernel
theorem dX1_goOn_58 : decode cX1_goOn 58 = .ok (.iconst 1, 1) := by decide +kernel
theorem dX1_goOn_59 : decode cX1_goOn 59 = .ok (.iadd, 1) := by decide +kernel
theorem dX1_goOn_60 : decode cX1_goOn 60 = .ok (.putfield 42, 3) := by decide +kernel
theorem dX1_goOn_63 : decode cX1_goOn 63 = .ok (.aload_n 0, 1) := by decide +kernel
theorem dX1_goOn_64 : decode cX1_goOn 64 = .ok (.dup, 1) := by decide +kernel
theorem dX1_goOn_65 : decode cX1_goOn 65 = .ok (.getfield 46, 3) := by decide +kernel
theorem dX1_goOn_68 : decode cX1_goOn 68 = .ok (.iconst 1, 1) := by decide +kernel
theorem dX1_goOn_69 : decode cX1_goOn 69 = .ok (.isub, 1) := by decide +kernel
theorem dX1_goOn_70 : decode cX1_goOn 70 = .ok (.putfield 46, 3) := by decide +kernel
theorem dX1_goOn_73 : decode cX1_goOn 73 = .ok (.aload_n 0, 1) := by decide +kernel
theorem dX1_goOn_74 : decode cX1_goOn 74 = .ok (.getfield 46, 3) := by decide +kernel
theorem dX1_goOn_77 : decode cX1_goOn 77 = .ok (.ireturn, 1) := by decide +kernel
theorem dX1_note_0 : decode cX1_note 0 = .ok (.aload_n 0, 1) := by decide +kernel
theorem dX1_note_1 : decode cX1_note 1 = .ok (.getfield 42, 3) := by decide +kernel
theorem dX1_note_4 : decode cX1_note 4 = .ok (.bipush 40, 2) := by decide +kernel
theorem dX1_note_6 : decode cX1_note 6 = .ok (.if_icmp .lt 7, 3) := by decide +kernel
theorem dX1_note_9 : decode cX1_note 9 = .ok (.aload_n 0, 1) := by decide +kernel
theorem dX1_note_10 : decode cX1_note 10 = .ok (.invokevirtual 49, 3) := by decide +kernel
theorem dX1_note_13 : decode cX1_note 13 = .ok (.aload_n 0, 1) := by decide +kernel
theorem dX1_note_14 : decode cX1_note 14 = .ok (.getfield 9, 3) := by decide +kernel
theorem dX1_note_17 : decode cX1_note 17 = .ok (.aload_n 0, 1) := by decide +kernel
theorem dX1_note_18 : decode cX1_note 18 = .ok (.getfield 42, 3) := by decide +kernel
theorem dX1_note_21 : decode cX1_note 21 = .ok (.iload_n 1, 1) := by decide +kernel
theorem dX1_note_22 : decode cX1_note 22 = .ok (.iastore, 1) := by decide +kernel
theorem dX1_note_23 : decode cX1_note 23 = .ok (.aload_n 0, 1) := by decide +kernel
theorem dX1_note_24 : decode cX1_note 24 = .ok (.getfield 15, 3) := by decide +kernel
theorem dX1_note_27 : decode cX1_note 27 = .ok (.aload_n 0, 1) := by decide +kernel
theorem dX1_note_28 : decode cX1_note 28 = .ok (.getfield 42, 3) := by decide +kernel
theorem dX1_note_31 : decode cX1_note 31 = .ok (.iload_n 2, 1) := by decide +kernel
theorem dX1_note_32 : decode cX1_note 32 = .ok (.iastore, 1) := by decide +kernel
theorem dX1_note_33 : decode cX1_note 33 = .ok (.aload_n 0, 1) := by decide +kernel
theorem dX1_note_34 : decode cX1_note 34 = .ok (.getfield 18, 3) := by decide +kernel
theorem dX1_note_37 : decode cX1_note 37 = .ok (.aload_n 0, 1) := by decide +kernel
theorem dX1_note_38 : decode cX1_note 38 = .ok (.getfield 42, 3) := by decide +kernel
theorem dX1_note_41 : decode cX1_note 41 = .ok (.iload_n 3, 1) := by decide +kernel
theorem dX1_note_42 : decode cX1_note 42 = .ok (.iastore, 1) := by decide +kernel
theorem dX1_note_43 : decode cX1_note 43 = .ok (.aload_n 0, 1) := by decide +kernel
theorem dX1_note_44 : decode cX1_note 44 = .ok (.getfield 21, 3) := by decide +kernel
theorem dX1_note_47 : decode cX1_note 47 = .ok (.aload_n 0, 1) := by decide +kernel
theorem dX1_note_48 : decode cX1_note 48 = .ok (.getfield 42, 3) := by decide +kernel
theorem dX1_note_51 : decode cX1_note 51 = .ok (.iload 4, 2) := by decide +kernel
theorem dX1_note_53 : decode cX1_note 53 = .ok (.iastore, 1) := by decide +kernel
theorem dX1_note_54 : decode cX1_note 54 = .ok (.aload_n 0, 1) := by decide +kernel
theorem dX1_note_55 : decode cX1_note 55 = .ok (.dup, 1) := by decide +kernel
theorem dX1_note_56 : decode cX1_note 56 = .ok (.getfield 42, 3) := by decide +kernel
theorem dX1_note_59 : decode cX1_note 59 = .ok (.iconst 1, 1) := by decide +kernel
theorem dX1_note_60 : decode cX1_note 60 = .ok (.iadd, 1) := by decide +kernel
theorem dX1_note_61 : decode cX1_note 61 = .ok (.putfield 42, 3) := by decide +kernel
theorem dX1_note_64 : decode cX1_note 64 = .ok (.aload_n 0, 1) := by decide +kernel
theorem dX1_note_65 : decode cX1_note 65 = .ok (.iconst 0, 1) := by decide +kernel
theorem dX1_note_66 : decode cX1_note 66 = .ok (.putfield 46, 3) := by decide +kernel
theorem dX1_note_69 : decode cX1_note 69 = .ok (.return_, 1) := by decide +kernel
theorem dX1_dropFirst_0 : decode cX1_dropFirst 0 = .ok (.iconst 1, 1) := by decide +kernel
theorem dX1_dropFirst_1 : decode cX1_dropFirst 1 = .ok (.istore_n 1, 1) := by decide +kernel
theorem dX1_dropFirst_2 : decode cX1_dropFirst 2 = .ok (.iload_n 1, 1) := by decide +kernel
theorem dX1_dropFirst_3 : decode cX1_dropFirst 3 = .ok (.bipush 40, 2) := by decide +kernel
theorem dX1_dropFirst_5 : decode cX1_dropFirst 5 = .ok (.if_icmp .ge 65, 3) := by decide +kernel
theorem dX1_dropFirst_8 : decode cX1_dropFirst 8 = .ok (.aload_n 0, 1) := by decide +kernel
theorem dX1_dropFirst_9 : decode cX1_dropFirst 9 = .ok (.getfield 9, 3) := by decide +kernel
theorem dX1_dropFirst_12 : decode cX1_dropFirst 12 = .ok (.iload_n 1, 1) := by decide +kernel
theorem dX1_dropFirst_13 : decode cX1_dropFirst 13 = .ok (.iconst 1, 1) := by decide +kernel
theorem dX1_dropFirst_14 : decode cX1_dropFirst 14 = .ok (.isub, 1) := by decide +kernel
theorem dX1_dropFirst_15 : decode cX1_dropFirst 15 = .ok (.aload_n 0, 1) := by decide +kernel
theorem dX1_dropFirst_16 : decode cX1_dropFirst 16 = .ok (.getfield 9, 3) := by decide +kernel
theorem dX1_dropFirst_19 : decode cX1_dropFirst 19 = .ok (.iload_n 1, 1) := by decide +kernel
theorem dX1_dropFirst_20 : decode cX1_dropFirst 20 = .ok (.iaload, 1) := by decide +kernel
theorem dX1_dropFirst_21 : decode cX1_dropFirst 21 = .ok (.iastore, 1) := by decide +kernel
theorem dX1_dropFirst_22 : decode cX1_dropFirst 22 = .ok (.aload_n 0, 1) := by decide +kernel
theorem dX1_dropFirst_23 : decode cX1_dropFirst 23 = .ok (.getfield 15, 3) := by decide +kernel
theorem dX1_dropFirst_26 : decode cX1_dropFirst 26 = .ok (.iload_n 1, 1) := by decide +kernel
theorem dX1_dropFirst_27 : decode cX1_dropFirst 27 = .ok (.iconst 1, 1) := by decide +kernel
theorem dX1_dropFirst_28 : decode cX1_dropFirst 28 = .ok (.isub, 1) := by decide +kernel
theorem dX1_dropFirst_29 : decode cX1_dropFirst 29 = .ok (.aload_n 0, 1) := by decide +kernel
theorem dX1_dropFirst_30 : decode cX1_dropFirst 30 = .ok (.getfield 15, 3) := by decide +kernel
theorem dX1_dropFirst_33 : decode cX1_dropFirst 33 = .ok (.iload_n 1, 1) := by decide +kernel
theorem dX1_dropFirst_34 : decode cX1_dropFirst 34 = .ok (.iaload, 1) := by decide +kernel
theorem dX1_dropFirst_35 : decode cX1_dropFirst 35 = .ok (.iastore, 1) := by decide +kernel
theorem dX1_dropFirst_36 : decode cX1_dropFirst 36 = .ok (.aload_n 0, 1) := by decide +kernel
theorem dX1_dropFirst_37 : decode cX1_dropFirst 37 = .ok (.getfield 18, 3) := by decide +kernel
theorem dX1_dropFirst_40 : decode cX1_dropFirst 40 = .ok (.iload_n 1, 1) := by decide +kernel
theorem dX1_dropFirst_41 : decode cX1_dropFirst 41 = .ok (.iconst 1, 1) := by decide +kernel
theorem dX1_dropFirst_42 : decode cX1_dropFirst 42 = .ok (.isub, 1) := by decide +kernel
theorem dX1_dropFirst_43 : decode cX1_dropFirst 43 = .ok (.aload_n 0, 1) := by decide +kernel
theorem dX1_dropFirst_44 : decode cX1_dropFirst 44 = .ok (.getfield 18, 3) := by decide +kernel
theorem dX1_dropFirst_47 : decode cX1_dropFirst 47 = .ok (.iload_n 1, 1) := by decide +kernel
theorem dX1_dropFirst_48 : decode cX1_dropFirst 48 = .ok (.iaload, 1) := by decide +kernel
theorem dX1_dropFirst_49 : decode cX1_dropFirst 49 = .ok (.iastore, 1) := by decide +kernel
theorem dX1_dropFirst_50 : decode cX1_dropFirst 50 = .ok (.aload_n 0, 1) := by decide +kernel
theorem dX1_dropFirst_51 : decode cX1_dropFirst 51 = .ok (.getfield 21, 3) := by decide +kernel
theorem dX1_dropFirst_54 : decode cX1_dropFirst 54 = .ok (.iload_n 1, 1) := by decide +kernel
theorem dX1_dropFirst_55 : decode cX1_dropFirst 55 = .ok (.iconst 1, 1) := by decide +kernel
theorem dX1_dropFirst_56 : decode cX1_dropFirst 56 = .ok (.isub, 1) := by decide +kernel
theorem dX1_dropFirst_57 : decode cX1_dropFirst 57 = .ok (.aload_n 0, 1) := by decide +kernel
theorem dX1_dropFirst_58 : decode cX1_dropFirst 58 = .ok (.getfield 21, 3) := by decide +kernel
theorem dX1_dropFirst_61 : decode cX1_dropFirst 61 = .ok (.iload_n 1, 1) := by decide +kernel
theorem dX1_dropFirst_62 : decode cX1_dropFirst 62 = .ok (.iaload, 1) := by decide +kernel
theorem dX1_dropFirst_63 : decode cX1_dropFirst 63 = .ok (.iastore, 1) := by decide +kernel
theorem dX1_dropFirst_64 : decode cX1_dropFirst 64 = .ok (.iinc 1 1, 3) := by decide +kernel
theorem dX1_dropFirst_67 : decode cX1_dropFirst 67 = .ok (.goto (-65), 3) := by decide +kernel
theorem dX1_dropFirst_70 : decode cX1_dropFirst 70 = .ok (.aload_n 0, 1) := by decide +kernel
theorem dX1_dropFirst_71 : decode cX1_dropFirst 71 = .ok (.bipush 39, 2) := by decide +kernel
theorem dX1_dropFirst_73 : decode cX1_dropFirst 73 = .ok (.putfield 42, 3) := by decide +kernel
theorem dX1_dropFirst_76 : decode cX1_dropFirst 76 = .ok (.return_, 1) := by decide +kernel
theorem dX2_init_0 : decode cX2_init 0 = .ok (.aload_n 0, 1) := by decide +kernel
theorem dX2_init_1 : decode cX2_init 1 = .ok (.invokespecial 3, 3) := by decide +kernel
theorem dX2_init_4 : decode cX2_init 4 = .ok (.aload_n 0, 1) := by decide +kernel
theorem dX2_init_5 : decode cX2_init 5 = .ok (.bipush 6, 2) := by decide +kernel
theorem dX2_init_7 : decode cX2_init 7 = .ok (.newarray .int, 2) := by decide +kernel
theorem dX2_init_9 : decode cX2_init 9 = .ok (.putfield 9, 3) := by decide +kernel
theorem dX2_init_12 : decode cX2_init 12 = .ok (.aload_n 0, 1) := by decide +kernel
theorem dX2_init_13 : decode cX2_init 13 = .ok (.iconst 5, 1) := by decide +kernel
theorem dX2_init_14 : decode cX2_init 14 = .ok (.newarray .int, 2) := by decide +kernel
theorem dX2_init_16 : decode cX2_init 16 = .ok (.putfield 15, 3) := by decide +kernel
theorem dX2_init_19 : decode cX2_init 19 = .ok (.aload_n 0, 1) := by decide +kernel
theorem dX2_init_20 : decode cX2_init 20 = .ok (.bipush 6, 2) := by decide +kernel
theorem dX2_init_22 : decode cX2_init 22 = .ok (.newarray .int, 2) := by decide +kernel
theorem dX2_init_24 : decode cX2_init 24 = .ok (.putfield 18, 3) := by decide +kernel
theorem dX2_init_27 : decode cX2_init 27 = .ok (.aload_n 0, 1) := by decide +kernel
theorem dX2_init_28 : decode cX2_init 28 = .ok (.aload_n 1, 1) := by decide +kernel
theorem dX2_init_29 : decode cX2_init 29 = .ok (.putfield 21, 3) := by decide +kernel
theorem dX2_init_32 : decode cX2_init 32 = .ok (.aload_n 0, 1) := by decide +kernel
theorem dX2_init_33 : decode cX2_init 33 = .ok (.aload_n 2, 1) := by decide +kernel
theorem dX2_init_34 : decode cX2_init 34 = .ok (.putfield 25, 3) := by decide +kernel
theorem dX2_init_37 : decode cX2_init 37 = .ok (.return_, 1) := by decide +kernel
theorem dX2_wantAll_0 : decode cX2_wantAll 0 = .ok (.iconst 0, 1) := by decide +kernel
theorem dX2_wantAll_1 : decode cX2_wantAll 1 = .ok (.istore_n 1, 1) := by decide +kernel
theorem dX2_wantAll_2 : decode cX2_wantAll 2 = .ok (.iload_n 1, 1) := by decide +kernel
theorem dX2_wantAll_3 : decode cX2_wantAll 3 = .ok (.aload_n 0, 1) := by decide +kernel
theorem dX2_wantAll_4 : decode cX2_wantAll 4 = .ok (.getfield 21, 3) := by decide +kernel
theorem dX2_wantAll_7 : decode cX2_wantAll 7 = .ok (.getfield 29, 3) := by decide +kernel
theorem dX2_wantAll_10 : decode cX2_wantAll 10 = .ok (.if_icmp .ge 16, 3) := by decide +kernel
theorem dX2_wantAll_13 : decode cX2_wantAll 13 = .ok (.aload_n 0, 1) := by decide +kernel
theorem dX2_wantAll_14 : decode cX2_wantAll 14 = .ok (.getfield 9, 3) := by decide +kernel
theorem dX2_wantAll_17 : decode cX2_wantAll 17 = .ok (.iload_n 1, 1) := by decide +kernel
theorem dX2_wantAll_18 : decode cX2_wantAll 18 = .ok (.iconst 0, 1) := by decide +kernel
theorem dX2_wantAll_19 : decode cX2_wantAll 19 = .ok (.iastore, 1) := by decide +kernel
theorem dX2_wantAll_20 : decode cX2_wantAll 20 = .ok (.iinc 1 1, 3) := by decide +kernel
theorem dX2_wantAll_23 : decode cX2_wantAll 23 = .ok (.goto (-21), 3) := by decide +kernel
theorem dX2_wantAll_26 : decode cX2_wantAll 26 = .ok (.iconst 0, 1) := by decide +kernel
theorem dX2_wantAll_27 : decode cX2_wantAll 27 = .ok (.istore_n 1, 1) := by decide +kernel
theorem dX2_wantAll_28 : decode cX2_wantAll 28 = .ok (.iload_n 1, 1) := by decide +kernel
theorem dX2_wantAll_29 : decode cX2_wantAll 29 = .ok (.aload_n 0, 1) := by decide +kernel
theorem dX2_wantAll_30 : decode cX2_wantAll 30 = .ok (.getfield 21, 3) := by decide +kernel
theorem dX2_wantAll_33 : decode cX2_wantAll 33 = .ok (.getfield 35, 3) := by decide +kernel
theorem dX2_wantAll_36 : decode cX2_wantAll 36 = .ok (.if_icmp .ge 78, 3) := by decide +kernel
theorem dX2_wantAll_39 : decode cX2_wantAll 39 = .ok (.aload_n 0, 1) := by decide +kernel
theorem dX2_wantAll_40 : decode cX2_wantAll 40 = .ok (.getfield 25, 3) := by decide +kernel
theorem dX2_wantAll_43 : decode cX2_wantAll 43 = .ok (.iload_n 1, 1) := by decide +kernel
theorem dX2_wantAll_44 : decode cX2_wantAll 44 = .ok (.invokevirtual 38, 3) := by decide +kernel
theorem dX2_wantAll_47 : decode cX2_wantAll 47 = .ok (.aload_n 0, 1) := by decide +kernel
theorem dX2_wantAll_48 : decode cX2_wantAll 48 = .ok (.getfield 25, 3) := by decide +kernel
theorem dX2_wantAll_51 : decode cX2_wantAll 51 = .ok (.iload_n 1, 1) := by decide +kernel
theorem dX2_wantAll_52 : decode cX2_wantAll 52 = .ok (.invokevirtual 44, 3) := by decide +kernel
theorem dX2_wantAll_55 : decode cX2_wantAll 55 = .ok (.iconst 0, 1) := by decide +kernel
theorem dX2_wantAll_56 : decode cX2_wantAll 56 = .ok (.istore_n 2, 1) := by decide +kernel
theorem dX2_wantAll_57 : decode cX2_wantAll 57 = .ok (.iload_n 2, 1) := by decide +kernel
theorem dX2_wantAll_58 : decode cX2_wantAll 58 = .ok (.aload_n 0, 1) := by decide +kernel
theorem dX2_wantAll_59 : decode cX2_wantAll 59 = .ok (.getfield 21, 3) := by decide +kernel
theorem dX2_wantAll_62 : decode cX2_wantAll 62 = .ok (.getfield 29, 3) := by decide +kernel
theorem dX2_wantAll_65 : decode cX2_wantAll 65 = .ok (.if_icmp .ge 43, 3) := by decide +kernel
theorem dX2_wantAll_68 : decode cX2_wantAll 68 = .ok (.aload_n 0, 1) := by decide +kernel
theorem dX2_wantAll_69 : decode cX2_wantAll 69 = .ok (.getfield 9, 3) := by decide +kernel
theorem dX2_wantAll_72 : decode cX2_wantAll 72 = .ok (.iload_n 2, 1) := by decide +kernel
theorem dX2_wantAll_73 : decode cX2_wantAll 73 = .ok (.dup2, 1) := by decide +kernel
theorem dX2_wantAll_74 : decode cX2_wantAll 74 = .ok (.iaload, 1) := by decide +kernel
theorem dX2_wantAll_75 : decode cX2_wantAll 75 = .ok (.aload_n 0, 1) := by decide +kernel
theorem dX2_wantAll_76 : decode cX2_wantAll 76 = .ok (.getfield 21, 3) := by decide +kernel
theorem dX2_wantAll_79 : decode cX2_wantAll 79 = .ok (.iconst 4, 1) := by decide +kernel
theorem dX2_wantAll_80 : decode cX2_wantAll 80 = .ok (.iload_n 1, 1) := by decide +kernel
theorem dX2_wantAll_81 : decode cX2_wantAll 81 = .ok (.invokevirtual 47, 3) := by decide +kernel
theorem dX2_wantAll_84 : decode cX2_wantAll 84 = .ok (.aload_n 0, 1) := by decide +kernel
theorem dX2_wantAll_85 : decode cX2_wantAll 85 = .ok (.getfield 21, 3) := by decide +kernel
theorem dX2_wantAll_88 : decode cX2_wantAll 88 = .ok (.aload_n 0, 1) := by decide +kernel
theorem dX2_wantAll_89 : decode cX2_wantAll 89 = .ok (.getfield 25, 3) := by decide +kernel
theorem dX2_wantAll_92 : decode cX2_wantAll 92 = .ok (.getfield 51, 3) := by decide +kernel
theorem dX2_wantAll_95 : decode cX2_wantAll 95 = .ok (.iload_n 2, 1) := by decide +kernel
theorem dX2_wantAll_96 : decode cX2_wantAll 96 = .ok (.invokevirtual 54, 3) := by decide +kernel
theorem dX2_wantAll_99 : decode cX2_wantAll 99 = .ok (.imul, 1) := by decide +kernel
theorem dX2_wantAll_100 : decode cX2_wantAll 100 = .ok (.iadd, 1) := by decide +kernel
theorem dX2_wantAll_101 : decode cX2_wantAll 101 = .ok (.iastore, 1) := by decide +kernel
theorem dX2_wantAll_102 : decode cX2_wantAll 102 = .ok (.iinc 2 1, 3) := by decide +kernel
theorem dX2_wantAll_105 : decode cX2_wantAll 105 = .ok (.goto (-48), 3) := by decide +kernel
theorem dX2_wantAll_108 : decode cX2_wantAll 108 = .ok (.iinc 1 1, 3) := by decide +kernel
theorem dX2_wantAll_111 : decode cX2_wantAll 111 = .ok (.goto (-83), 3) := by decide +kernel
theorem dX2_wantAll_114 : decode cX2_wantAll 114 = .ok (.return_, 1) := by decide +kernel
theorem dX2_wantedOf_0 : decode cX2_wantedOf 0 = .ok (.iload_n 1, 1) := by decide +kernel
theorem dX2_wantedOf_1 : decode cX2_wantedOf 1 = .ok (.iconst 0, 1) := by decide +kernel
theorem dX2_wantedOf_2 : decode cX2_wantedOf 2 = .ok (.iconst 5, 1) := by decide +kernel
theorem dX2_wantedOf_3 : decode cX2_wantedOf 3 = .ok (.invokestatic 57, 3) := by decide +kernel
theorem dX2_wantedOf_6 : decode cX2_wantedOf 6 = .ok (.ifCond .eq 12, 3) := by decide +kernel
theorem dX2_wantedOf_9 : decode cX2_wantedOf 9 = .ok (.aload_n 0, 1) := by decide +kernel
theorem dX2_wantedOf_10 : decode cX2_wantedOf 10 = .ok (.getfield 9, 3) := by decide +kernel
theorem dX2_wantedOf_13 : decode cX2_wantedOf 13 = .ok (.iload_n 1, 1) := by decide +kernel
theorem dX2_wantedOf_14 : decode cX2_wantedOf 14 = .ok (.iaload, 1) := by decide +kernel
theorem dX2_wantedOf_15 : decode cX2_wantedOf 15 = .ok (.goto 4, 3) := by decide +kernel
theorem dX2_wantedOf_18 : decode cX2_wantedOf 18 = .ok (.iconst 0, 1) := by decide +kernel
theorem dX2_wantedOf_19 : decode cX2_wantedOf 19 = .ok (.ireturn, 1) := by decide +kernel
theorem dX2_overOf_0 : decode cX2_overOf 0 = .ok (.aload_n 0, 1) := by decide +kernel
theorem dX2_overOf_1 : decode cX2_overOf 1 = .ok (.getfield 21, 3) := by decide +kernel
theorem dX2_overOf_4 : decode cX2_overOf 4 = .ok (.iconst 0, 1) := by decide +kernel
theorem dX2_overOf_5 : decode cX2_overOf 5 = .ok (.iload_n 1, 1) := by decide +kernel
theorem dX2_overOf_6 : decode cX2_overOf 6 = .ok (.invokevirtual 47, 3) := by decide +kernel
theorem dX2_overOf_9 : decode cX2_overOf 9 = .ok (.aload_n 0, 1) := by decide +kernel
theorem dX2_overOf_10 : decode cX2_overOf 10 = .ok (.iload_n 1, 1) := by decide +kernel
theorem dX2_overOf_11 : decode cX2_overOf 11 = .ok (.invokevirtual 61, 3) := by decide +kernel
theorem dX2_overOf_14 : decode cX2_overOf 14 = .ok (.isub, 1) := by decide +kernel
theorem dX2_overOf_15 : decode cX2_overOf 15 = .ok (.ireturn, 1) := by decide +kernel
theorem dX2_bothTogether_0 : decode cX2_bothTogether 0 = .ok (.iconst 0, 1) := by decide +kernel
theorem dX2_bothTogether_1 : decode cX2_bothTogether 1 = .ok (.istore_n 1, 1) := by decide +kernel
theorem dX2_bothTogether_2 : decode cX2_bothTogether 2 = .ok (.iconst 0, 1) := by decide +kernel
theorem dX2_bothTogether_3 : decode cX2_bothTogether 3 = .ok (.istore_n 2, 1) := by decide +kernel
theorem dX2_bothTogether_4 : decode cX2_bothTogether 4 = .ok (.iload_n 2, 1) := by decide +kernel
theorem dX2_bothTogether_5 : decode cX2_bothTogether 5 = .ok (.aload_n 0, 1) := by decide +kernel
theorem dX2_bothTogether_6 : decode cX2_bothTogether 6 = .ok (.getfield 21, 3) := by decide +kernel
theorem dX2_bothTogether_9 : decode cX2_bothTogether 9 = .ok (.getfield 29, 3) := by decide +kernel
theorem dX2_bothTogether_12 : decode cX2_bothTogether 12 = .ok (.if_icmp .ge 20, 3) := by decide +kernel
theorem dX2_bothTogether_15 : decode cX2_bothTogether 15 = .ok (.iload_n 1, 1) := by decide +kernel
theorem dX2_bothTogether_16 : decode cX2_bothTogether 16 = .ok (.aload_n 0, 1) := by decide +kernel
theorem dX2_bothTogether_17 : decode cX2_bothTogether 17 = .ok (.iload_n 2, 1) := by decide +kernel
theorem dX2_bothTogether_18 : decode cX2_bothTogether 18 = .ok (.invokevirtual 65, 3) := by decide +kernel
theorem dX2_bothTogether_21 : decode cX2_bothTogether 21 = .ok (.invokestatic 68, 3) := by decide +kernel
theorem dX2_bothTogether_24 : decode cX2_bothTogether 24 = .ok (.iadd, 1) := by decide +kernel
theorem dX2_bothTogether_25 : decode cX2_bothTogether 25 = .ok (.istore_n 1, 1) := by decide +kernel
theorem dX2_bothTogether_26 : decode cX2_bothTogether 26 = .ok (.iinc 2 1, 3) := by decide +kernel
theorem dX2_bothTogether_29 : decode cX2_bothTogether 29 = .ok (.goto (-25), 3) := by decide +kernel
theorem dX2_bothTogether_32 : decode cX2_bothTogether 32 = .ok (.iload_n 1, 1) := by decide +kernel
theorem dX2_bothTogether_33 : decode cX2_bothTogether 33 = .ok (.ireturn, 1) := by decide +kernel
theorem dX2_findPoints_0 : decode cX2_findPoints 0 = .ok (.aload_n 0, 1) := by decide +kernel
theorem dX2_findPoints_1 : decode cX2_findPoints 1 = .ok (.getfield 25, 3) := by decide +kernel
theorem dX2_findPoints_4 : decode cX2_findPoints 4 = .ok (.invokevirtual 73, 3) := by decide +kernel
theorem dX2_findPoints_7 : decode cX2_findPoints 7 = .ok (.aload_n 0, 1) := by decide +kernel
theorem dX2_findPoints_8 : decode cX2_findPoints 8 = .ok (.invokevirtual 76, 3) := by decide +kernel
theorem dX2_findPoints_11 : decode cX2_findPoints 11 = .ok (.aload_n 0, 1) := by decide +kernel
theorem dX2_findPoints_12 : decode cX2_findPoints 12 = .ok (.iconst 0, 1) := by decide +kernel
theorem dX2_findPoints_13 : decode cX2_findPoints 13 = .ok (.putfield 79, 3) := by decide +kernel
theorem dX2_findPoints_16 : decode cX2_findPoints 16 = .ok (.aload_n 0, 1) := by decide +kernel
theorem dX2_findPoints_17 : decode cX2_findPoints 17 = .ok (.invokevirtual 82, 3) := by decide +kernel
theorem dX2_findPoints_20 : decode cX2_findPoints 20 = .ok (.iconst 1, 1) := by decide +kernel
theorem dX2_findPoints_21 : decode cX2_findPoints 21 = .ok (.istore_n 2, 1) := by decide +kernel
theorem dX2_findPoints_22 : decode cX2_findPoints 22 = .ok (.iload_n 2, 1) := by decide +kernel
theorem dX2_findPoints_23 : decode cX2_findPoints 23 = .ok (.iload_n 1, 1) := by decide +kernel
theorem dX2_findPoints_24 : decode cX2_findPoints 24 = .ok (.if_icmp .gt 40, 3) := by decide +kernel
theorem dX2_findPoints_27 : decode cX2_findPoints 27 = .ok (.aload_n 0, 1) := by decide +kernel
theorem dX2_findPoints_28 : decode cX2_findPoints 28 = .ok (.invokevirtual 85, 3) := by decide +kernel
theorem dX2_findPoints_31 : decode cX2_findPoints 31 = .ok (.ifCond .eq 33, 3) := by decide +kernel
theorem dX2_findPoints_34 : decode cX2_findPoints 34 = .ok (.aload_n 0, 1) := by decide +kernel
theorem dX2_findPoints_35 : decode cX2_findPoints 35 = .ok (.iload_n 2, 1) := by decide +kernel
theorem dX2_findPoints_36 : decode cX2_findPoints 36 = .ok (.putfield 79, 3) := by decide +kernel
theorem dX2_findPoints_39 : decode cX2_findPoints 39 = .ok (.aload_n 0, 1) := by decide +kernel
theorem dX2_findPoints_40 : decode cX2_findPoints 40 = .ok (.invokevirtual 76, 3) := by decide +kernel
theorem dX2_findPoints_43 : decode cX2_findPoints 43 = .ok (.aload_n 0, 1) := by decide +kernel
theorem dX2_findPoints_44 : decode cX2_findPoints 44 = .ok (.invokevirtual 89, 3) := by decide +kernel
theorem dX2_findPoints_47 : decode cX2_findPoints 47 = .ok (.aload_n 0, 1) := by decide +kernel
theorem dX2_findPoints_48 : decode cX2_findPoints 48 = .ok (.getfield 93, 3) := by decide +kernel
theorem dX2_findPoints_51 : decode cX2_findPoints 51 = .ok (.if_icmp .ge 7, 3) := by decide +kernel
theorem dX2_findPoints_54 : decode cX2_findPoints 54 = .ok (.aload_n 0, 1) := by decide +kernel
theorem dX2_findPoints_55 : decode cX2_findPoints 55 = .ok (.invokevirtual 82, 3) := by decide +kernel
theorem dX2_findPoints_58 : decode cX2_findPoints 58 = .ok (.iinc 2 1, 3) := by decide +kernel
theorem dX2_findPoints_61 : decode cX2_findPoints 61 = .ok (.goto (-39), 3) := by decide +kernel
theorem dX2_findPoints_64 : decode cX2_findPoints 64 = .ok (.return_, 1) := by decide +kernel
theorem dX2_leastPointsOf_0 : decode cX2_leastPointsOf 0 = .ok (.iload_n 1, 1) := by decide +kernel
theorem dX2_leastPointsOf_1 : decode cX2_leastPointsOf 1 = .ok (.iconst 0, 1) := by decide +kernel
theorem dX2_leastPointsOf_2 : decode cX2_leastPointsOf 2 = .ok (.iconst 5, 1) := by decide +kernel
theorem dX2_leastPointsOf_3 : decode cX2_leastPointsOf 3 = .ok (.invokestatic 57, 3) := by decide +kernel
theorem dX2_leastPointsOf_6 : decode cX2_leastPointsOf 6 = .ok (.ifCond .eq 12, 3) := by decide +kernel
theorem dX2_leastPointsOf_9 : decode cX2_leastPointsOf 9 = .ok (.aload_n 0, 1) := by decide +kernel
theorem dX2_leastPointsOf_10 : decode cX2_leastPointsOf 10 = .ok (.getfield 18, 3) := by decide +kernel
theorem dX2_leastPointsOf_13 : decode cX2_leastPointsOf 13 = .ok (.iload_n 1, 1) := by decide +kernel
theorem dX2_leastPointsOf_14 : decode cX2_leastPointsOf 14 = .ok (.iaload, 1) := by decide +kernel
theorem dX2_leastPointsOf_15 : decode cX2_leastPointsOf 15 = .ok (.goto 4, 3) := by decide +kernel
theorem dX2_leastPointsOf_18 : decode cX2_leastPointsOf 18 = .ok (.iconst 0, 1) := by decide +kernel
theorem dX2_leastPointsOf_19 : decode cX2_leastPointsOf 19 = .ok (.ireturn, 1) := by decide +kernel
theorem dX2_keepLeast_0 : decode cX2_keepLeast 0 = .ok (.aload_n 0, 1) := by decide +kernel
theorem dX2_keepLeast_1 : decode cX2_keepLeast 1 = .ok (.aload_n 0, 1) := by decide +kernel
theorem dX2_keepLeast_2 : decode cX2_keepLeast 2 = .ok (.invokevirtual 89, 3) := by decide +kernel
theorem dX2_keepLeast_5 : decode cX2_keepLeast 5 = .ok (.putfield 93, 3) := by decide +kernel
theorem dX2_keepLeast_8 : decode cX2_keepLeast 8 = .ok (.aload_n 0, 1) := by decide +kernel
theorem dX2_keepLeast_9 : decode cX2_keepLeast 9 = .ok (.aload_n 0, 1) := by decide +kernel
theorem dX2_keepLeast_10 : decode cX2_keepLeast 10 = .ok (.getfield 79, 3) := by decide +kernel
theorem dX2_keepLeast_13 : decode cX2_keepLeast 13 = .ok (.putfield 96, 3) := by decide +kernel
theorem dX2_keepLeast_16 : decode cX2_keepLeast 16 = .ok (.iconst 0, 1) := by decide +kernel
theorem dX2_keepLeast_17 : decode cX2_keepLeast 17 = .ok (.istore_n 1, 1) := by decide +kernel
theorem dX2_keepLeast_18 : decode cX2_keepLeast 18 = .ok (.iload_n 1, 1) := by decide +kernel
theorem dX2_keepLeast_19 : decode cX2_keepLeast 19 = .ok (.aload_n 0, 1) := by decide +kernel
theorem dX2_keepLeast_20 : decode cX2_keepLeast 20 = .ok (.getfield 21, 3) := by decide +kernel
theorem dX2_keepLeast_23 : decode cX2_keepLeast 23 = .ok (.getfield 29, 3) := by decide +kernel
theorem dX2_keepLeast_26 : decode cX2_keepLeast 26 = .ok (.if_icmp .ge 23, 3) := by decide +kernel
theorem dX2_keepLeast_29 : decode cX2_keepLeast 29 = .ok (.aload_n 0, 1) := by decide +kernel
theorem dX2_keepLeast_30 : decode cX2_keepLeast 30 = .ok (.getfield 18, 3) := by decide +kernel
theorem dX2_keepLeast_33 : decode cX2_keepLeast 33 = .ok (.iload_n 1, 1) := by decide +kernel
theorem dX2_keepLeast_34 : decode cX2_keepLeast 34 = .ok (.aload_n 0, 1) := by decide +kernel
theorem dX2_keepLeast_35 : decode cX2_keepLeast 35 = .ok (.getfield 25, 3) := by decide +kernel
theorem dX2_keepLeast_38 : decode cX2_keepLeast 38 = .ok (.iload_n 1, 1) := by decide +kernel
theorem dX2_keepLeast_39 : decode cX2_keepLeast 39 = .ok (.invokevirtual 99, 3) := by decide +kernel
theorem dX2_keepLeast_42 : decode cX2_keepLeast 42 = .ok (.iastore, 1) := by decide +kernel
theorem dX2_keepLeast_43 : decode cX2_keepLeast 43 = .ok (.iinc 1 1, 3) := by decide +kernel
theorem dX2_keepLeast_46 : decode cX2_keepLeast 46 = .ok (.goto (-28), 3) := by decide +kernel
theorem dX2_keepLeast_49 : decode cX2_keepLeast 49 = .ok (.return_, 1) := by decide +kernel
theorem dX2_movePoints_0 : decode cX2_movePoints 0 = .ok (.iconst 0, 1) := by decide +kernel
theorem dX2_movePoints_1 : decode cX2_movePoints 1 = .ok (.istore_n 1, 1) := by decide +kernel
theorem dX2_movePoints_2 : decode cX2_movePoints 2 = .ok (.iconst 0, 1) := by decide +kernel
theorem dX2_movePoints_3 : decode cX2_movePoints 3 = .ok (.istore_n 2, 1) := by decide +kernel
theorem dX2_movePoints_4 : decode cX2_movePoints 4 = .ok (.iload_n 2, 1) := by decide +kernel
theorem dX2_movePoints_5 : decode cX2_movePoints 5 = .ok (.aload_n 0, 1) := by decide +kernel
theorem dX2_movePoints_6 : decode cX2_movePoints 6 = .ok (.getfield 21, 3) := by decide +kernel
theorem dX2_movePoints_9 : decode cX2_movePoints 9 = .ok (.getfield 29, 3) := by decide +kernel
theorem dX2_movePoints_12 : decode cX2_movePoints 12 = .ok (.if_icmp .ge 68, 3) := by decide +kernel
theorem dX2_movePoints_15 : decode cX2_movePoints 15 = .ok (.aload_n 0, 1) := by decide +kernel
theorem dX2_movePoints_16 : decode cX2_movePoints 16 = .ok (.getfield 25, 3) := by decide +kernel
theorem dX2_movePoints_19 : decode cX2_movePoints 19 = .ok (.iload_n 2, 1) := by decide +kernel
theorem dX2_movePoints_20 : decode cX2_movePoints 20 = .ok (.invokevirtual 99, 3) := by decide +kernel
theorem dX2_movePoints_23 : decode cX2_movePoints 23 = .ok (.istore_n 3, 1) := by decide +kernel
theorem dX2_movePoints_24 : decode cX2_movePoints 24 = .ok (.iload_n 3, 1) := by decide +kernel
theorem dX2_movePoints_25 : decode cX2_movePoints 25 = .ok (.aload_n 0, 1) := by decide +kernel
theorem dX2_movePoints_26 : decode cX2_movePoints 26 = .ok (.iload_n 2, 1) := by decide +kernel
theorem dX2_movePoints_27 : decode cX2_movePoints 27 = .ok (.invokevirtual 65, 3) := by decide +kernel
theorem dX2_movePoints_30 : decode cX2_movePoints 30 = .ok (.iconst 0, 1) := by decide +kernel
theorem dX2_movePoints_31 : decode cX2_movePoints 31 = .ok (.invokestatic 102, 3) := by decide +kernel
theorem dX2_movePoints_34 : decode cX2_movePoints 34 = .ok (.isub, 1) := by decide +kernel
theorem dX2_movePoints_35 : decode cX2_movePoints 35 = .ok (.istore 4, 2) := by decide +kernel
theorem dX2_movePoints_37 : decode cX2_movePoints 37 = .ok (.iload 4, 2) := by decide +kernel
theorem dX2_movePoints_39 : decode cX2_movePoints 39 = .ok (.iload_n 3, 1) := by decide +kernel
theorem dX2_movePoints_40 : decode cX2_movePoints 40 = .ok (.if_icmp .eq 34, 3) := by decide +kernel
theorem dX2_movePoints_43 : decode cX2_movePoints 43 = .ok (.iload 4, 2) := by decide +kernel
theorem dX2_movePoints_45 : decode cX2_movePoints 45 = .ok (.iconst 0, 1) := by decide +kernel
theorem dX2_movePoints_46 : decode cX2_movePoints 46 = .ok (.bipush 99, 2) := by decide +kernel
theorem dX2_movePoints_48 : decode cX2_movePoints 48 = .ok (.invokestatic 57, 3) := by decide +kernel
theorem dX2_movePoints_51 : decode cX2_movePoints 51 = .ok (.ifCond .eq 23, 3) := by decide +kernel
theorem dX2_movePoints_54 : decode cX2_movePoints 54 = .ok (.aload_n 0, 1) := by decide +kernel
theorem dX2_movePoints_55 : decode cX2_movePoints 55 = .ok (.getfield 25, 3) := by decide +kernel
theorem dX2_movePoints_58 : decode cX2_movePoints 58 = .ok (.iload_n 2, 1) := by decide +kernel
theorem dX2_movePoints_59 : decode cX2_movePoints 59 = .ok (.aload_n 0, 1) := by decide +kernel
theorem dX2_movePoints_60 : decode cX2_movePoints 60 = .ok (.getfield 25, 3) := by decide +kernel
theorem dX2_movePoints_63 : decode cX2_movePoints 63 = .ok (.iload_n 2, 1) := by decide +kernel
theorem dX2_movePoints_64 : decode cX2_movePoints 64 = .ok (.invokevirtual 107, 3) := by decide +kernel
theorem dX2_movePoints_67 : decode cX2_movePoints 67 = .ok (.iload 4, 2) := by decide +kernel
theorem dX2_movePoints_69 : decode cX2_movePoints 69 = .ok (.invokevirtual 110, 3) := by decide +kernel
theorem dX2_movePoints_72 : decode cX2_movePoints 72 = .ok (.iconst 1, 1) := by decide +kernel
theorem dX2_movePoints_73 : decode cX2_movePoints 73 = .ok (.istore_n 1, 1) := by decide +kernel
theorem dX2_movePoints_74 : decode cX2_movePoints 74 = .ok (.iinc 2 1, 3) := by decide +kernel
theorem dX2_movePoints_77 : decode cX2_movePoints 77 = .ok (.goto (-73), 3) := by decide +kernel
theorem dX2_movePoints_80 : decode cX2_movePoints 80 = .ok (.iload_n 1, 1) := by decide +kernel
theorem dX2_movePoints_81 : decode cX2_movePoints 81 = .ok (.ireturn, 1) := by decide +kernel
theorem dX2_hear_0 : decode cX2_hear 0 = .ok (.iload_n 1, 1) := by decide +kernel
theorem dX2_hear_1 : decode cX2_hear 1 = .ok (.iconst 0, 1) := by decide +kernel
theorem dX2_hear_2 : decode cX2_hear 2 = .ok (.iconst 4, 1) := by decide +kernel
theorem dX2_hear_3 : decode cX2_hear 3 = .ok (.invokestatic 57, 3) := by decide +kernel
theorem dX2_hear_6 : decode cX2_hear 6 = .ok (.ifCond .ne 5, 3) := by decide +kernel
theorem dX2_hear_9 : decode cX2_hear 9 = .ok (.iconst (-1), 1) := by decide +kernel
theorem dX2_hear_10 : decode cX2_hear 10 = .ok (.ireturn, 1) := by decide +kernel
theorem dX2_hear_11 : decode cX2_hear 11 = .ok (.aload_n 0, 1) := by decide +kernel
theorem dX2_hear_12 : decode cX2_hear 12 = .ok (.getfield 15, 3) := by decide +kernel
theorem dX2_hear_15 : decode cX2_hear 15 = .ok (.iload_n 1, 1) := by decide +kernel
theorem dX2_hear_16 : decode cX2_hear 16 = .ok (.iaload, 1) := by decide +kernel
theorem dX2_hear_17 : decode cX2_hear 17 = .ok (.istore_n 3, 1) := by decide +kernel
theorem dX2_hear_18 : decode cX2_hear 18 = .ok (.aload_n 0, 1) := by decide +kernel
theorem dX2_hear_19 : decode cX2_hear 19 = .ok (.getfield 15, 3) := by decide +kernel
theorem dX2_hear_22 : decode cX2_hear 22 = .ok (.iload_n 1, 1) := by decide +kernel
theorem dX2_hear_23 : decode cX2_hear 23 = .ok (.iload_n 2, 1) := by decide +kernel
theorem dX2_hear_24 : decode cX2_hear 24 = .ok (.iastore, 1) := by decide +kernel
theorem dX2_hear_25 : decode cX2_hear 25 = .ok (.iload_n 3, 1) := by decide +kernel
theorem dX2_hear_26 : decode cX2_hear 26 = .ok (.ireturn, 1) := by decide +kernel
theorem dX2_judged_0 : decode cX2_judged 0 = .ok (.aload_n 0, 1) := by decide +kernel
theorem dX2_judged_1 : decode cX2_judged 1 = .ok (.getfield 25, 3) := by decide +kernel
theorem dX2_judged_4 : decode cX2_judged 4 = .ok (.invokevirtual 73, 3) := by decide +kernel
theorem dX2_judged_7 : decode cX2_judged 7 = .ok (.iconst 0, 1) := by decide +kernel
theorem dX2_judged_8 : decode cX2_judged 8 = .ok (.istore_n 1, 1) := by decide +kernel
theorem dX2_judged_9 : decode cX2_judged 9 = .ok (.iload_n 1, 1) := by decide +kernel
theorem dX2_judged_10 : decode cX2_judged 10 = .ok (.aload_n 0, 1) := by decide +kernel
theorem dX2_judged_11 : decode cX2_judged 11 = .ok (.getfield 21, 3) := by decide +kernel
theorem dX2_judged_14 : decode cX2_judged 14 = .ok (.getfield 35, 3) := by decide +kernel
theorem dX2_judged_17 : decode cX2_judged 17 = .ok (.if_icmp .ge 23, 3) := by decide +kernel
theorem dX2_judged_20 : decode cX2_judged 20 = .ok (.aload_n 0, 1) := by decide +kernel
theorem dX2_judged_21 : decode cX2_judged 21 = .ok (.iload_n 1, 1) := by decide +kernel
theorem dX2_judged_22 : decode cX2_judged 22 = .ok (.invokevirtual 114, 3) := by decide +kernel
theorem dX2_judged_25 : decode cX2_judged 25 = .ok (.istore_n 2, 1) := by decide +kernel
theorem dX2_judged_26 : decode cX2_judged 26 = .ok (.iload_n 2, 1) := by decide +kernel
theorem dX2_judged_27 : decode cX2_judged 27 = .ok (.ifCond .eq 7, 3) := by decide +kernel
theorem dX2_judged_30 : decode cX2_judged 30 = .ok (.iload_n 2, 1) := by decide +kernel
theorem dX2_judged_31 : decode cX2_judged 31 = .ok (.iload_n 1, 1) := by decide +kernel
theorem dX2_judged_32 : decode cX2_judged 32 = .ok (.iadd, 1) := by decide +kernel
theorem dX2_judged_33 : decode cX2_judged 33 = .ok (.ireturn, 1) := by decide +kernel
theorem dX2_judged_34 : decode cX2_judged 34 = .ok (.iinc 1 1, 3) := by decide +kernel
theorem dX2_judged_37 : decode cX2_judged 37 = .ok (.goto (-28), 3) := by decide +kernel
theorem dX2_judged_40 : decode cX2_judged 40 = .ok (.iconst 0, 1) := by decide +kernel
theorem dX2_judged_41 : decode cX2_judged 41 = .ok (.istore_n 1, 1) := by decide +kernel
theorem dX2_judged_42 : decode cX2_judged 42 = .ok (.iload_n 1, 1) := by decide +kernel
theorem dX2_judged_43 : decode cX2_judged 43 = .ok (.aload_n 0, 1) := by decide +kernel
theorem dX2_judged_44 : decode cX2_judged 44 = .ok (.getfield 21, 3) := by decide +kernel
theorem dX2_judged_47 : decode cX2_judged 47 = .ok (.getfield 29, 3) := by decide +kernel
theorem dX2_judged_50 : decode cX2_judged 50 = .ok (.if_icmp .ge 31, 3) := by decide +kernel
theorem dX2_judged_53 : decode cX2_judged 53 = .ok (.aload_n 0, 1) := by decide +kernel
theorem dX2_judged_54 : decode cX2_judged 54 = .ok (.iload_n 1, 1) := by decide +kernel
theorem dX2_judged_55 : decode cX2_judged 55 = .ok (.invokevirtual 117, 3) := by decide +kernel
theorem dX2_judged_58 : decode cX2_judged 58 = .ok (.aload_n 0, 1) := by decide +kernel
theorem dX2_judged_59 : decode cX2_judged 59 = .ok (.getfield 21, 3) := by decide +kernel
theorem dX2_judged_62 : decode cX2_judged 62 = .ok (.iconst 0, 1) := by decide +kernel
theorem dX2_judged_63 : decode cX2_judged 63 = .ok (.iload_n 1, 1) := by decide +kernel
theorem dX2_judged_64 : decode cX2_judged 64 = .ok (.invokevirtual 47, 3) := by decide +kernel
theorem dX2_judged_67 : decode cX2_judged 67 = .ok (.if_icmp .le 8, 3) := by decide +kernel
theorem dX2_judged_70 : decode cX2_judged 70 = .ok (.bipush 30, 2) := by decide +kernel
theorem dX2_judged_72 : decode cX2_judged 72 = .ok (.iload_n 1, 1) := by decide +kernel
theorem dX2_judged_73 : decode cX2_judged 73 = .ok (.iadd, 1) := by decide +kernel
theorem dX2_judged_74 : decode cX2_judged 74 = .ok (.ireturn, 1) := by decide +kernel
theorem dX2_judged_75 : decode cX2_judged 75 = .ok (.iinc 1 1, 3) := by decide +kernel
theorem dX2_judged_78 : decode cX2_judged 78 = .ok (.goto (-36), 3) := by decide +kernel
theorem dX2_judged_81 : decode cX2_judged 81 = .ok (.bipush (-2), 2) := by decide +kernel
theorem dX2_judged_83 : decode cX2_judged 83 = .ok (.ireturn, 1) := by decide +kernel
theorem dX2_faultOf_0 : decode cX2_faultOf 0 = .ok (.aload_n 0, 1) := by decide +kernel
theorem dX2_faultOf_1 : decode cX2_faultOf 1 = .ok (.getfield 25, 3) := by decide +kernel
theorem dX2_faultOf_4 : decode cX2_faultOf 4 = .ok (.iload_n 1, 1) := by decide +kernel
theorem dX2_faultOf_5 : decode cX2_faultOf 5 = .ok (.invokevirtual 38, 3) := by decide +kernel
theorem dX2_faultOf_8 : decode cX2_faultOf 8 = .ok (.aload_n 0, 1) := by decide +kernel
theorem dX2_faultOf_9 : decode cX2_faultOf 9 = .ok (.getfield 25, 3) := by decide +kernel
theorem dX2_faultOf_12 : decode cX2_faultOf 12 = .ok (.iload_n 1, 1) := by decide +kernel
theorem dX2_faultOf_13 : decode cX2_faultOf 13 = .ok (.invokevirtual 44, 3) := by decide +kernel
theorem dX2_faultOf_16 : decode cX2_faultOf 16 = .ok (.iconst 0, 1) := by decide +kernel
theorem dX2_faultOf_17 : decode cX2_faultOf 17 = .ok (.istore_n 2, 1) := by decide +kernel
theorem dX2_faultOf_18 : decode cX2_faultOf 18 = .ok (.iconst 0, 1) := by decide +kernel
theorem dX2_faultOf_19 : decode cX2_faultOf 19 = .ok (.istore_n 3, 1) := by decide +kernel
theorem dX2_faultOf_20 : decode cX2_faultOf 20 = .ok (.iconst 0, 1) := by decide +kernel
theorem dX2_faultOf_21 : decode cX2_faultOf 21 = .ok (.istore 4, 2) := by decide +kernel
theorem dX2_faultOf_23 : decode cX2_faultOf 23 = .ok (.iconst 0, 1) := by decide +kernel
theorem dX2_faultOf_24 : decode cX2_faultOf 24 = .ok (.istore 5, 2) := by decide +kernel
theorem dX2_faultOf_26 : decode cX2_faultOf 26 = .ok (.iload 5, 2) := by decide +kernel
theorem dX2_faultOf_28 : decode cX2_faultOf 28 = .ok (.aload_n 0, 1) := by decide +kernel
theorem dX2_faultOf_29 : decode cX2_faultOf 29 = .ok (.getfield 21, 3) := by decide +kernel
theorem dX2_faultOf_32 : decode cX2_faultOf 32 = .ok (.getfield 29, 3) := by decide +kernel
theorem dX2_faultOf_35 : decode cX2_faultOf 35 = .ok (.if_icmp .ge 72, 3) := by decide +kernel
theorem dX2_faultOf_38 : decode cX2_faultOf 38 = .ok (.aload_n 0, 1) := by decide +kernel
theorem dX2_faultOf_39 : decode cX2_faultOf 39 = .ok (.getfield 21, 3) := by decide +kernel
theorem dX2_faultOf_42 : decode cX2_faultOf 42 = .ok (.aload_n 0, 1) := by decide +kernel
theorem dX2_faultOf_43 : decode cX2_faultOf 43 = .ok (.getfield 15, 3) := by decide +kernel
theorem dX2_faultOf_46 : decode cX2_faultOf 46 = .ok (.iload_n 1, 1) := by decide +kernel
theorem dX2_faultOf_47 : decode cX2_faultOf 47 = .ok (.iaload, 1) := by decide +kernel
theorem dX2_faultOf_48 : decode cX2_faultOf 48 = .ok (.iload 5, 2) := by decide +kernel
theorem dX2_faultOf_50 : decode cX2_faultOf 50 = .ok (.invokevirtual 54, 3) := by decide +kernel
theorem dX2_faultOf_53 : decode cX2_faultOf 53 = .ok (.istore 6, 2) := by decide +kernel
theorem dX2_faultOf_55 : decode cX2_faultOf 55 = .ok (.iload_n 2, 1) := by decide +kernel
theorem dX2_faultOf_56 : decode cX2_faultOf 56 = .ok (.aload_n 0, 1) := by decide +kernel
theorem dX2_faultOf_57 : decode cX2_faultOf 57 = .ok (.getfield 25, 3) := by decide +kernel
theorem dX2_faultOf_60 : decode cX2_faultOf 60 = .ok (.iload 5, 2) := by decide +kernel
theorem dX2_faultOf_62 : decode cX2_faultOf 62 = .ok (.iload 6, 2) := by decide +kernel
theorem dX2_faultOf_64 : decode cX2_faultOf 64 = .ok (.invokevirtual 120, 3) := by decide +kernel
theorem dX2_faultOf_67 : decode cX2_faultOf 67 = .ok (.iadd, 1) := by decide +kernel
theorem dX2_faultOf_68 : decode cX2_faultOf 68 = .ok (.istore_n 2, 1) := by decide +kernel
theorem dX2_faultOf_69 : decode cX2_faultOf 69 = .ok (.iload_n 3, 1) := by decide +kernel
theorem dX2_faultOf_70 : decode cX2_faultOf 70 = .ok (.iload 6, 2) := by decide +kernel
theorem dX2_faultOf_72 : decode cX2_faultOf 72 = .ok (.aload_n 0, 1) := by decide +kernel
theorem dX2_faultOf_73 : decode cX2_faultOf 73 = .ok (.getfield 25, 3) := by decide +kernel
theorem dX2_faultOf_76 : decode cX2_faultOf 76 = .ok (.iload 5, 2) := by decide +kernel
theorem dX2_faultOf_78 : decode cX2_faultOf 78 = .ok (.invokevirtual 107, 3) := by decide +kernel
theorem dX2_faultOf_81 : decode cX2_faultOf 81 = .ok (.imul, 1) := by decide +kernel
theorem dX2_faultOf_82 : decode cX2_faultOf 82 = .ok (.iadd, 1) := by decide +kernel
theorem dX2_faultOf_83 : decode cX2_faultOf 83 = .ok (.istore_n 3, 1) := by decide +kernel
theorem dX2_faultOf_84 : decode cX2_faultOf 84 = .ok (.iload 4, 2) := by decide +kernel
theorem dX2_faultOf_86 : decode cX2_faultOf 86 = .ok (.iload 6, 2) := by decide +kernel
theorem dX2_faultOf_88 : decode cX2_faultOf 88 = .ok (.aload_n 0, 1) := by decide +kernel
theorem dX2_faultOf_89 : decode cX2_faultOf 89 = .ok (.getfield 25, 3) := by decide +kernel
theorem dX2_faultOf_92 : decode cX2_faultOf 92 = .ok (.iload 5, 2) := by decide +kernel
theorem dX2_faultOf_94 : decode cX2_faultOf 94 = .ok (.invokevirtual 99, 3) := by decide +kernel
theorem dX2_faultOf_97 : decode cX2_faultOf 97 = .ok (.imul, 1) := by decide +kernel
theorem dX2_faultOf_98 : decode cX2_faultOf 98 = .ok (.iadd, 1) := by decide +kernel
theorem dX2_faultOf_99 : decode cX2_faultOf 99 = .ok (.istore 4, 2) := by decide +kernel
theorem dX2_faultOf_101 : decode cX2_faultOf 101 = .ok (.iinc 5 1, 3) := by decide +kernel
theorem dX2_faultOf_104 : decode cX2_faultOf 104 = .ok (.goto (-78), 3) := by decide +kernel
theorem dX2_faultOf_107 : decode cX2_faultOf 107 = .ok (.aload_n 0, 1) := by decide +kernel
theorem dX2_faultOf_108 : decode cX2_faultOf 108 = .ok (.getfield 25, 3) := by decide +kernel
theorem dX2_faultOf_111 : decode cX2_faultOf 111 = .ok (.iload_n 3, 1) := by decide +kernel
theorem dX2_faultOf_112 : decode cX2_faultOf 112 = .ok (.iload 4, 2) := by decide +kernel
theorem dX2_faultOf_114 : decode cX2_faultOf 114 = .ok (.invokevirtual 123, 3) := by decide +kernel
theorem dX2_faultOf_117 : decode cX2_faultOf 117 = .ok (.ifCond .ne 6, 3) := by decide +kernel
theorem dX2_faultOf_120 : decode cX2_faultOf 120 = .ok (.bipush 10, 2) := by decide +kernel
theorem dX2_faultOf_122 : decode cX2_faultOf 122 = .ok (.ireturn, 1) := by decide +kernel
theorem dX2_faultOf_123 : decode cX2_faultOf 123 = .ok (.iload_n 2, 1) := by decide +kernel
theorem dX2_faultOf_124 : decode cX2_faultOf 124 = .ok (.aload_n 0, 1) := by decide +kernel
theorem dX2_faultOf_125 : decode cX2_faultOf 125 = .ok (.getfield 25, 3) := by decide +kernel
theorem dX2_faultOf_128 : decode cX2_faultOf 128 = .ok (.getfield 127, 3) := by decide +kernel
theorem dX2_faultOf_131 : decode cX2_faultOf 131 = .ok (.if_icmp .ge 8, 3) := by decide +kernel
theorem dX2_faultOf_134 : decode cX2_faultOf 134 = .ok (.bipush 20, 2) := by decide +kernel
theorem dX2_faultOf_136 : decode cX2_faultOf 136 = .ok (.goto 4, 3) := by decide +kernel
theorem dX2_faultOf_139 : decode cX2_faultOf 139 = .ok (.iconst 0, 1) := by decide +kernel
theorem dX2_faultOf_140 : decode cX2_faultOf 140 = .ok (.ireturn, 1) := by decide +kernel
theorem dX2_toldOf_0 : decode cX2_toldOf 0 = .ok (.iconst 0, 1) := by decide +kernel
theorem dX2_toldOf_1 : decode cX2_toldOf 1 = .ok (.istore_n 2, 1) := by decide +kernel
theorem dX2_toldOf_2 : decode cX2_toldOf 2 = .ok (.iconst 0, 1) := by decide +kernel
theorem dX2_toldOf_3 : decode cX2_toldOf 3 = .ok (.istore_n 3, 1) := by decide +kernel
theorem dX2_toldOf_4 : decode cX2_toldOf 4 = .ok (.iload_n 3, 1) := by decide +kernel
theorem dX2_toldOf_5 : decode cX2_toldOf 5 = .ok (.aload_n 0, 1) := by decide +kernel
theorem dX2_toldOf_6 : decode cX2_toldOf 6 = .ok (.getfield 21, 3) := by decide +kernel
theorem dX2_toldOf_9 : decode cX2_toldOf 9 = .ok (.getfield 35, 3) := by decide +kernel
theorem dX2_toldOf_12 : decode cX2_toldOf 12 = .ok (.if_icmp .ge 36, 3) := by decide +kernel
theorem dX2_toldOf_15 : decode cX2_toldOf 15 = .ok (.iload_n 2, 1) := by decide +kernel
theorem dX2_toldOf_16 : decode cX2_toldOf 16 = .ok (.aload_n 0, 1) := by decide +kernel
theorem dX2_toldOf_17 : decode cX2_toldOf 17 = .ok (.getfield 21, 3) := by decide +kernel
theorem dX2_toldOf_20 : decode cX2_toldOf 20 = .ok (.iconst 4, 1) := by decide +kernel
theorem dX2_toldOf_21 : decode cX2_toldOf 21 = .ok (.iload_n 3, 1) := by decide +kernel
theorem dX2_toldOf_22 : decode cX2_toldOf 22 = .ok (.invokevirtual 47, 3) := by decide +kernel
theorem dX2_toldOf_25 : decode cX2_toldOf 25 = .ok (.aload_n 0, 1) := by decide +kernel
theorem dX2_toldOf_26 : decode cX2_toldOf 26 = .ok (.getfield 21, 3) := by decide +kernel
theorem dX2_toldOf_29 : decode cX2_toldOf 29 = .ok (.aload_n 0, 1) := by decide +kernel
theorem dX2_toldOf_30 : decode cX2_toldOf 30 = .ok (.getfield 15, 3) := by decide +kernel
theorem dX2_toldOf_33 : decode cX2_toldOf 33 = .ok (.iload_n 3, 1) := by decide +kernel
theorem dX2_toldOf_34 : decode cX2_toldOf 34 = .ok (.iaload, 1) := by decide +kernel
theorem dX2_toldOf_35 : decode cX2_toldOf 35 = .ok (.iload_n 1, 1) := by decide +kernel
theorem dX2_toldOf_36 : decode cX2_toldOf 36 = .ok (.invokevirtual 54, 3) := by decide +kernel
theorem dX2_toldOf_39 : decode cX2_toldOf 39 = .ok (.imul, 1) := by decide +kernel
theorem dX2_toldOf_40 : decode cX2_toldOf 40 = .ok (.iadd, 1) := by decide +kernel
theorem dX2_toldOf_41 : decode cX2_toldOf 41 = .ok (.istore_n 2, 1) := by decide +kernel
theorem dX2_toldOf_42 : decode cX2_toldOf 42 = .ok (.iinc 3 1, 3) := by decide +kernel
theorem dX2_toldOf_45 : decode cX2_toldOf 45 = .ok (.goto (-41), 3) := by decide +kernel
theorem dX2_toldOf_48 : decode cX2_toldOf 48 = .ok (.iload_n 2, 1) := by decide +kernel
theorem dX2_toldOf_49 : decode cX2_toldOf 49 = .ok (.ireturn, 1) := by decide +kernel
theorem dX2_servesAll_0 : decode cX2_servesAll 0 = .ok (.aload_n 0, 1) := by decide +kernel
theorem dX2_servesAll_1 : decode cX2_servesAll 1 = .ok (.getfield 25, 3) := by decide +kernel
theorem dX2_servesAll_4 : decode cX2_servesAll 4 = .ok (.invokevirtual 73, 3) := by decide +kernel
theorem dX2_servesAll_7 : decode cX2_servesAll 7 = .ok (.iconst 0, 1) := by decide +kernel
theorem dX2_servesAll_8 : decode cX2_servesAll 8 = .ok (.istore_n 2, 1) := by decide +kernel
theorem dX2_servesAll_9 : decode cX2_servesAll 9 = .ok (.iload_n 2, 1) := by decide +kernel
theorem dX2_servesAll_10 : decode cX2_servesAll 10 = .ok (.aload_n 0, 1) := by decide +kernel
theorem dX2_servesAll_11 : decode cX2_servesAll 11 = .ok (.getfield 21, 3) := by decide +kernel
theorem dX2_servesAll_14 : decode cX2_servesAll 14 = .ok (.getfield 29, 3) := by decide +kernel
theorem dX2_servesAll_17 : decode cX2_servesAll 17 = .ok (.if_icmp .ge 34, 3) := by decide +kernel
theorem dX2_servesAll_20 : decode cX2_servesAll 20 = .ok (.iload_n 1, 1) := by decide +kernel
theorem dX2_servesAll_21 : decode cX2_servesAll 21 = .ok (.iload_n 2, 1) := by decide +kernel
theorem dX2_servesAll_22 : decode cX2_servesAll 22 = .ok (.ishr, 1) := by decide +kernel
theorem dX2_servesAll_23 : decode cX2_servesAll 23 = .ok (.iconst 1, 1) := by decide +kernel
theorem dX2_servesAll_24 : decode cX2_servesAll 24 = .ok (.iand, 1) := by decide +kernel
theorem dX2_servesAll_25 : decode cX2_servesAll 25 = .ok (.ifCond .ne 20, 3) := by decide +kernel
theorem dX2_servesAll_28 : decode cX2_servesAll 28 = .ok (.aload_n 0, 1) := by decide +kernel
theorem dX2_servesAll_29 : decode cX2_servesAll 29 = .ok (.getfield 25, 3) := by decide +kernel
theorem dX2_servesAll_32 : decode cX2_servesAll 32 = .ok (.iload_n 2, 1) := by decide +kernel
theorem dX2_servesAll_33 : decode cX2_servesAll 33 = .ok (.aload_n 0, 1) := by decide +kernel
theorem dX2_servesAll_34 : decode cX2_servesAll 34 = .ok (.getfield 25, 3) := by decide +kernel
theorem dX2_servesAll_37 : decode cX2_servesAll 37 = .ok (.iload_n 2, 1) := by decide +kernel
theorem dX2_servesAll_38 : decode cX2_servesAll 38 = .ok (.invokevirtual 107, 3) := by decide +kernel
theorem dX2_servesAll_41 : decode cX2_servesAll 41 = .ok (.iconst 0, 1) := by decide +kernel
theorem dX2_servesAll_42 : decode cX2_servesAll 42 = .ok (.invokevirtual 110, 3) := by decide +kernel
theorem dX2_servesAll_45 : decode cX2_servesAll 45 = .ok (.iinc 2 1, 3) := by decide +kernel
theorem dX2_servesAll_48 : decode cX2_servesAll 48 = .ok (.goto (-39), 3) := by decide +kernel
theorem dX2_servesAll_51 : decode cX2_servesAll 51 = .ok (.aload_n 0, 1) := by decide +kernel
theorem dX2_servesAll_52 : decode cX2_servesAll 52 = .ok (.invokevirtual 76, 3) := by decide +kernel
theorem dX2_servesAll_55 : decode cX2_servesAll 55 = .ok (.iconst 0, 1) := by decide +kernel
theorem dX2_servesAll_56 : decode cX2_servesAll 56 = .ok (.istore_n 2, 1) := by decide +kernel
theorem dX2_servesAll_57 : decode cX2_servesAll 57 = .ok (.iload_n 2, 1) := by decide +kernel
theorem dX2_servesAll_58 : decode cX2_servesAll 58 = .ok (.aload_n 0, 1) := by decide +kernel
theorem dX2_servesAll_59 : decode cX2_servesAll 59 = .ok (.getfield 21, 3) := by decide +kernel
theorem dX2_servesAll_62 : decode cX2_servesAll 62 = .ok (.getfield 29, 3) := by decide +kernel
theorem dX2_servesAll_65 : decode cX2_servesAll 65 = .ok (.if_icmp .ge 19, 3) := by decide +kernel
theorem dX2_servesAll_68 : decode cX2_servesAll 68 = .ok (.aload_n 0, 1) := by decide +kernel
theorem dX2_servesAll_69 : decode cX2_servesAll 69 = .ok (.iload_n 2, 1) := by decide +kernel
theorem dX2_servesAll_70 : decode cX2_servesAll 70 = .ok (.invokevirtual 65, 3) := by decide +kernel
theorem dX2_servesAll_73 : decode cX2_servesAll 73 = .ok (.ifCond .ge 5, 3) := by decide +kernel
theorem dX2_servesAll_76 : decode cX2_servesAll 76 = .ok (.iconst 0, 1) := by decide +kernel
theorem dX2_servesAll_77 : decode cX2_servesAll 77 = .ok (.ireturn, 1) := by decide +kernel
theorem dX2_servesAll_78 : decode cX2_servesAll 78 = .ok (.iinc 2 1, 3) := by decide +kernel
theorem dX2_servesAll_81 : decode cX2_servesAll 81 = .ok (.goto (-24), 3) := by decide +kernel
theorem dX2_servesAll_84 : decode cX2_servesAll 84 = .ok (.iconst 1, 1) := by decide +kernel
theorem dX2_servesAll_85 : decode cX2_servesAll 85 = .ok (.ireturn, 1) := by decide +kernel
theorem dX2_takersOf_0 : decode cX2_takersOf 0 = .ok (.aload_n 0, 1) := by decide +kernel
theorem dX2_takersOf_1 : decode cX2_takersOf 1 = .ok (.getfield 25, 3) := by decide +kernel
theorem dX2_takersOf_4 : decode cX2_takersOf 4 = .ok (.invokevirtual 73, 3) := by decide +kernel
theorem dX2_takersOf_7 : decode cX2_takersOf 7 = .ok (.iconst 0, 1) := by decide +kernel
theorem dX2_takersOf_8 : decode cX2_takersOf 8 = .ok (.istore_n 2, 1) := by decide +kernel
theorem dX2_takersOf_9 : decode cX2_takersOf 9 = .ok (.iconst 0, 1) := by decide +kernel
theorem dX2_takersOf_10 : decode cX2_takersOf 10 = .ok (.istore_n 3, 1) := by decide +kernel
theorem dX2_takersOf_11 : decode cX2_takersOf 11 = .ok (.iload_n 3, 1) := by decide +kernel
theorem dX2_takersOf_12 : decode cX2_takersOf 12 = .ok (.aload_n 0, 1) := by decide +kernel
theorem dX2_takersOf_13 : decode cX2_takersOf 13 = .ok (.getfield 21, 3) := by decide +kernel
theorem dX2_takersOf_16 : decode cX2_takersOf 16 = .ok (.getfield 35, 3) := by decide +kernel
theorem dX2_takersOf_19 : decode cX2_takersOf 19 = .ok (.if_icmp .ge 49, 3) := by decide +kernel
theorem dX2_takersOf_22 : decode cX2_takersOf 22 = .ok (.aload_n 0, 1) := by decide +kernel
theorem dX2_takersOf_23 : decode cX2_takersOf 23 = .ok (.getfield 25, 3) := by decide +kernel
theorem dX2_takersOf_26 : decode cX2_takersOf 26 = .ok (.iload_n 3, 1) := by decide +kernel
theorem dX2_takersOf_27 : decode cX2_takersOf 27 = .ok (.invokevirtual 38, 3) := by decide +kernel
theorem dX2_takersOf_30 : decode cX2_takersOf 30 = .ok (.aload_n 0, 1) := by decide +kernel
theorem dX2_takersOf_31 : decode cX2_takersOf 31 = .ok (.getfield 25, 3) := by decide +kernel
theorem dX2_takersOf_34 : decode cX2_takersOf 34 = .ok (.iload_n 3, 1) := by decide +kernel
theorem dX2_takersOf_35 : decode cX2_takersOf 35 = .ok (.invokevirtual 44, 3) := by decide +kernel
theorem dX2_takersOf_38 : decode cX2_takersOf 38 = .ok (.aload_n 0, 1) := by decide +kernel
theorem dX2_takersOf_39 : decode cX2_takersOf 39 = .ok (.getfield 21, 3) := by decide +kernel
theorem dX2_takersOf_42 : decode cX2_takersOf 42 = .ok (.aload_n 0, 1) := by decide +kernel
theorem dX2_takersOf_43 : decode cX2_takersOf 43 = .ok (.getfield 25, 3) := by decide +kernel
theorem dX2_takersOf_46 : decode cX2_takersOf 46 = .ok (.getfield 51, 3) := by decide +kernel
theorem dX2_takersOf_49 : decode cX2_takersOf 49 = .ok (.iload_n 1, 1) := by decide +kernel
theorem dX2_takersOf_50 : decode cX2_takersOf 50 = .ok (.invokevirtual 54, 3) := by decide +kernel
theorem dX2_takersOf_53 : decode cX2_takersOf 53 = .ok (.ifCond .le 9, 3) := by decide +kernel
theorem dX2_takersOf_56 : decode cX2_takersOf 56 = .ok (.iload_n 2, 1) := by decide +kernel
theorem dX2_takersOf_57 : decode cX2_takersOf 57 = .ok (.iconst 1, 1) := by decide +kernel
theorem dX2_takersOf_58 : decode cX2_takersOf 58 = .ok (.iload_n 3, 1) := by decide +kernel
theorem dX2_takersOf_59 : decode cX2_takersOf 59 = .ok (.ishl, 1) := by decide +kernel
theorem dX2_takersOf_60 : decode cX2_takersOf 60 = .ok (.ior, 1) := by decide +kernel
theorem dX2_takersOf_61 : decode cX2_takersOf 61 = .ok (.istore_n 2, 1) := by decide +kernel
theorem dX2_takersOf_62 : decode cX2_takersOf 62 = .ok (.iinc 3 1, 3) := by decide +kernel
theorem dX2_takersOf_65 : decode cX2_takersOf 65 = .ok (.goto (-54), 3) := by decide +kernel
theorem dX2_takersOf_68 : decode cX2_takersOf 68 = .ok (.iload_n 2, 1) := by decide +kernel
theorem dX2_takersOf_69 : decode cX2_takersOf 69 = .ok (.ireturn, 1) := by decide +kernel
theorem dX2_cheapest_0 : decode cX2_cheapest 0 = .ok (.bipush (-2), 2) := by decide +kernel
theorem dX2_cheapest_2 : decode cX2_cheapest 2 = .ok (.istore_n 2, 1) := by decide +kernel
theorem dX2_cheapest_3 : decode cX2_cheapest 3 = .ok (.iconst 0, 1) := by decide +kernel
theorem dX2_cheapest_4 : decode cX2_cheapest 4 = .ok (.istore_n 3, 1) := by decide +kernel
theorem dX2_cheapest_5 : decode cX2_cheapest 5 = .ok (.iload_n 3, 1) := by decide +kernel
theorem dX2_cheapest_6 : decode cX2_cheapest 6 = .ok (.aload_n 0, 1) := by decide +kernel
theorem dX2_cheapest_7 : decode cX2_cheapest 7 = .ok (.getfield 21, 3) := by decide +kernel
theorem dX2_cheapest_10 : decode cX2_cheapest 10 = .ok (.getfield 29, 3) := by decide +kernel
theorem dX2_cheapest_13 : decode cX2_cheapest 13 = .ok (.if_icmp .ge 73, 3) := by decide +kernel
theorem dX2_cheapest_16 : decode cX2_cheapest 16 = .ok (.aload_n 0, 1) := by decide +kernel
theorem dX2_cheapest_17 : decode cX2_cheapest 17 = .ok (.getfield 21, 3) := by decide +kernel
theorem dX2_cheapest_20 : decode cX2_cheapest 20 = .ok (.iconst 3, 1) := by decide +kernel
theorem dX2_cheapest_21 : decode cX2_cheapest 21 = .ok (.iload_n 3, 1) := by decide +kernel
theorem dX2_cheapest_22 : decode cX2_cheapest 22 = .ok (.invokevirtual 47, 3) := by decide +kernel
theorem dX2_cheapest_25 : decode cX2_cheapest 25 = .ok (.aload_n 0, 1) := by decide +kernel
theorem dX2_cheapest_26 : decode cX2_cheapest 26 = .ok (.getfield 21, 3) := by decide +kernel
theorem dX2_cheapest_29 : decode cX2_cheapest 29 = .ok (.iconst 1, 1) := by decide +kernel
theorem dX2_cheapest_30 : decode cX2_cheapest 30 = .ok (.iload_n 3, 1) := by decide +kernel
theorem dX2_cheapest_31 : decode cX2_cheapest 31 = .ok (.invokevirtual 47, 3) := by decide +kernel
theorem dX2_cheapest_34 : decode cX2_cheapest 34 = .ok (.iload_n 1, 1) := by decide +kernel
theorem dX2_cheapest_35 : decode cX2_cheapest 35 = .ok (.isub, 1) := by decide +kernel
theorem dX2_cheapest_36 : decode cX2_cheapest 36 = .ok (.if_icmp .gt 7, 3) := by decide +kernel
theorem dX2_cheapest_39 : decode cX2_cheapest 39 = .ok (.iconst 1, 1) := by decide +kernel
theorem dX2_cheapest_40 : decode cX2_cheapest 40 = .ok (.goto 4, 3) := by decide +kernel
theorem dX2_cheapest_43 : decode cX2_cheapest 43 = .ok (.iconst 0, 1) := by decide +kernel
theorem dX2_cheapest_44 : decode cX2_cheapest 44 = .ok (.istore 4, 2) := by decide +kernel
theorem dX2_cheapest_46 : decode cX2_cheapest 46 = .ok (.iload 4, 2) := by decide +kernel
theorem dX2_cheapest_48 : decode cX2_cheapest 48 = .ok (.ifCond .eq 32, 3) := by decide +kernel
theorem dX2_cheapest_51 : decode cX2_cheapest 51 = .ok (.iload_n 2, 1) := by decide +kernel
theorem dX2_cheapest_52 : decode cX2_cheapest 52 = .ok (.bipush (-2), 2) := by decide +kernel
theorem dX2_cheapest_54 : decode cX2_cheapest 54 = .ok (.if_icmp .eq 24, 3) := by decide +kernel
theorem dX2_cheapest_57 : decode cX2_cheapest 57 = .ok (.aload_n 0, 1) := by decide +kernel
theorem dX2_cheapest_58 : decode cX2_cheapest 58 = .ok (.getfield 21, 3) := by decide +kernel
theorem dX2_cheapest_61 : decode cX2_cheapest 61 = .ok (.iconst 2, 1) := by decide +kernel
theorem dX2_cheapest_62 : decode cX2_cheapest 62 = .ok (.iload_n 3, 1) := by decide +kernel
theorem dX2_cheapest_63 : decode cX2_cheapest 63 = .ok (.invokevirtual 47, 3) := by decide +kernel
theorem dX2_cheapest_66 : decode cX2_cheapest 66 = .ok (.aload_n 0, 1) := by decide +kernel
theorem dX2_cheapest_67 : decode cX2_cheapest 67 = .ok (.getfield 21, 3) := by decide +kernel
theorem dX2_cheapest_70 : decode cX2_cheapest 70 = .ok (.iconst 2, 1) := by decide +kernel
theorem dX2_cheapest_71 : decode cX2_cheapest 71 = .ok (.iload_n 2, 1) := by decide +kernel
theorem dX2_cheapest_72 : decode cX2_cheapest 72 = .ok (.invokevirtual 47, 3) := by decide +kernel
theorem dX2_cheapest_75 : decode cX2_cheapest 75 = .ok (.if_icmp .ge 5, 3) := by decide +kernel
theorem dX2_cheapest_78 : decode cX2_cheapest 78 = .ok (.iload_n 3, 1) := by decide +kernel
theorem dX2_cheapest_79 : decode cX2_cheapest 79 = .ok (.istore_n 2, 1) := by decide +kernel
theorem dX2_cheapest_80 : decode cX2_cheapest 80 = .ok (.iinc 3 1, 3) := by decide +kernel
theorem dX2_cheapest_83 : decode cX2_cheapest 83 = .ok (.goto (-78), 3) := by decide +kernel
theorem dX2_cheapest_86 : decode cX2_cheapest 86 = .ok (.iload_n 2, 1) := by decide +kernel
theorem dX2_cheapest_87 : decode cX2_cheapest 87 = .ok (.ireturn, 1) := by decide +kernel
theorem dX2_findWorst_0 : decode cX2_findWorst 0 = .ok (.aload_n 0, 1) := by decide +kernel
theorem dX2_findWorst_1 : decode cX2_findWorst 1 = .ok (.getfield 25, 3) := by decide +kernel
theorem dX2_findWorst_4 : decode cX2_findWorst 4 = .ok (.invokevirtual 73, 3) := by decide +kernel
theorem dX2_findWorst_7 : decode cX2_findWorst 7 = .ok (.aload_n 0, 1) := by decide +kernel
theorem dX2_findWorst_8 : decode cX2_findWorst 8 = .ok (.invokevirtual 76, 3) := by decide +kernel
theorem dX2_findWorst_11 : decode cX2_findWorst 11 = .ok (.bipush (-2), 2) := by decide +kernel
theorem dX2_findWorst_13 : decode cX2_findWorst 13 = .ok (.istore_n 1, 1) := by decide +kernel
theorem dX2_findWorst_14 : decode cX2_findWorst 14 = .ok (.iconst 0, 1) := by decide +kernel
theorem dX2_findWorst_15 : decode cX2_findWorst 15 = .ok (.istore_n 2, 1) := by decide +kernel
theorem dX2_findWorst_16 : decode cX2_findWorst 16 = .ok (.iload_n 2, 1) := by decide +kernel
theorem dX2_findWorst_17 : decode cX2_findWorst 17 = .ok (.aload_n 0, 1) := by decide +kernel
theorem dX2_findWorst_18 : decode cX2_findWorst 18 = .ok (.getfield 21, 3) := by decide +kernel
theorem dX2_findWorst_21 : decode cX2_findWorst 21 = .ok (.getfield 29, 3) := by decide +kernel
theorem dX2_findWorst_24 : decode cX2_findWorst 24 = .ok (.if_icmp .ge 42, 3) := by decide +kernel
theorem dX2_findWorst_27 : decode cX2_findWorst 27 = .ok (.aload_n 0, 1) := by decide +kernel
theorem dX2_findWorst_28 : decode cX2_findWorst 28 = .ok (.getfield 21, 3) := by decide +kernel
theorem dX2_findWorst_31 : decode cX2_findWorst 31 = .ok (.iconst 0, 1) := by decide +kernel
theorem dX2_findWorst_32 : decode cX2_findWorst 32 = .ok (.iload_n 2, 1) := by decide +kernel
theorem dX2_findWorst_33 : decode cX2_findWorst 33 = .ok (.invokevirtual 47, 3) := by decide +kernel
theorem dX2_findWorst_36 : decode cX2_findWorst 36 = .ok (.ifCond .le 24, 3) := by decide +kernel
theorem dX2_findWorst_39 : decode cX2_findWorst 39 = .ok (.iload_n 1, 1) := by decide +kernel
theorem dX2_findWorst_40 : decode cX2_findWorst 40 = .ok (.bipush (-2), 2) := by decide +kernel
theorem dX2_findWorst_42 : decode cX2_findWorst 42 = .ok (.if_icmp .eq 16, 3) := by decide +kernel
theorem dX2_findWorst_45 : decode cX2_findWorst 45 = .ok (.aload_n 0, 1) := by decide +kernel
theorem dX2_findWorst_46 : decode cX2_findWorst 46 = .ok (.iload_n 2, 1) := by decide +kernel
theorem dX2_findWorst_47 : decode cX2_findWorst 47 = .ok (.invokevirtual 130, 3) := by decide +kernel
theorem dX2_findWorst_50 : decode cX2_findWorst 50 = .ok (.aload_n 0, 1) := by decide +kernel
theorem dX2_findWorst_51 : decode cX2_findWorst 51 = .ok (.iload_n 1, 1) := by decide +kernel
theorem dX2_findWorst_52 : decode cX2_findWorst 52 = .ok (.invokevirtual 130, 3) := by decide +kernel
theorem dX2_findWorst_55 : decode cX2_findWorst 55 = .ok (.if_icmp .le 5, 3) := by decide +kernel
theorem dX2_findWorst_58 : decode cX2_findWorst 58 = .ok (.iload_n 2, 1) := by decide +kernel
theorem dX2_findWorst_59 : decode cX2_findWorst 59 = .ok (.istore_n 1, 1) := by decide +kernel
theorem dX2_findWorst_60 : decode cX2_findWorst 60 = .ok (.iinc 2 1, 3) := by decide +kernel
theorem dX2_findWorst_63 : decode cX2_findWorst 63 = .ok (.goto (-47), 3) := by decide +kernel
theorem dX2_findWorst_66 : decode cX2_findWorst 66 = .ok (.iload_n 1, 1) := by decide +kernel
theorem dX2_findWorst_67 : decode cX2_findWorst 67 = .ok (.ireturn, 1) := by decide +kernel
theorem dX2_offOf_0 : decode cX2_offOf 0 = .ok (.aload_n 0, 1) := by decide +kernel
theorem dX2_offOf_1 : decode cX2_offOf 1 = .ok (.getfield 21, 3) := by decide +kernel
theorem dX2_offOf_4 : decode cX2_offOf 4 = .ok (.iconst 0, 1) := by decide +kernel
theorem dX2_offOf_5 : decode cX2_offOf 5 = .ok (.iload_n 1, 1) := by decide +kernel
theorem dX2_offOf_6 : decode cX2_offOf 6 = .ok (.invokevirtual 47, 3) := by decide +kernel
theorem dX2_offOf_9 : decode cX2_offOf 9 = .ok (.istore_n 2, 1) := by decide +kernel
theorem dX2_offOf_10 : decode cX2_offOf 10 = .ok (.iload_n 2, 1) := by decide +kernel
theorem dX2_offOf_11 : decode cX2_offOf 11 = .ok (.ifCond .ne 7, 3) := by decide +kernel
theorem dX2_offOf_14 : decode cX2_offOf 14 = .ok (.iconst 0, 1) := by decide +kernel
theorem dX2_offOf_15 : decode cX2_offOf 15 = .ok (.goto 17, 3) := by decide +kernel
theorem dX2_offOf_18 : decode cX2_offOf 18 = .ok (.aload_n 0, 1) := by decide +kernel
theorem dX2_offOf_19 : decode cX2_offOf 19 = .ok (.iload_n 1, 1) := by decide +kernel
theorem dX2_offOf_20 : decode cX2_offOf 20 = .ok (.invokevirtual 65, 3) := by decide +kernel
theorem dX2_offOf_23 : decode cX2_offOf 23 = .ok (.invokestatic 68, 3) := by decide +kernel
theorem dX2_offOf_26 : decode cX2_offOf 26 = .ok (.sipush 1000, 3) := by decide +kernel
theorem dX2_offOf_29 : decode cX2_offOf 29 = .ok (.imul, 1) := by decide +kernel
theorem dX2_offOf_30 : decode cX2_offOf 30 = .ok (.iload_n 2, 1) := by decide +kernel
theorem dX2_offOf_31 : decode cX2_offOf 31 = .ok (.idiv, 1) := by decide +kernel
theorem dX2_offOf_32 : decode cX2_offOf 32 = .ok (.ireturn, 1) := by decide +kernel
theorem dX3_init_0 : decode cX3_init 0 = .ok (.aload_n 0, 1) := by decide +kernel
theorem dX3_init_1 : decode cX3_init 1 = .ok (.invokespecial 3, 3) := by decide +kernel
theorem dX3_init_4 : decode cX3_init 4 = .ok (.aload_n 0, 1) := by decide +kernel
theorem dX3_init_5 : decode cX3_init 5 = .ok (.bipush 50, 2) := by decide +kernel
theorem dX3_init_7 : decode cX3_init 7 = .ok (.newarray .int, 2) := by decide +kernel
theorem dX3_init_9 : decode cX3_init 9 = .ok (.putfield 9, 3) := by decide +kernel
theorem dX3_init_12 : decode cX3_init 12 = .ok (.aload_n 0, 1) := by decide +kernel
theorem dX3_init_13 : decode cX3_init 13 = .ok (.bipush 24, 2) := by decide +kernel
theorem dX3_init_15 : decode cX3_init 15 = .ok (.newarray .int, 2) := by decide +kernel
theorem dX3_init_17 : decode cX3_init 17 = .ok (.putfield 15, 3) := by decide +kernel
theorem dX3_init_20 : decode cX3_init 20 = .ok (.return_, 1) := by decide +kernel
theorem dX3_has_0 : decode cX3_has 0 = .ok (.iload_n 1, 1) := by decide +kernel
theorem dX3_has_1 : decode cX3_has 1 = .ok (.iconst 0, 1) := by decide +kernel
theorem dX3_has_2 : decode cX3_has 2 = .ok (.aload_n 0, 1) := by decide +kernel
theorem dX3_has_3 : decode cX3_has 3 = .ok (.getfield 18, 3) := by decide +kernel
theorem dX3_has_6 : decode cX3_has 6 = .ok (.iconst 1, 1) := by decide +kernel
theorem dX3_has_7 : decode cX3_has 7 = .ok (.isub, 1) := by decide +kernel
theorem dX3_has_8 : decode cX3_has 8 = .ok (.invokestatic 22, 3) := by decide +kernel
theorem dX3_has_11 : decode cX3_has 11 = .ok (.ifCond .eq 13, 3) := by decide +kernel
theorem dX3_has_14 : decode cX3_has 14 = .ok (.iload_n 1, 1) := by decide +kernel
theorem dX3_has_15 : decode cX3_has 15 = .ok (.bipush 50, 2) := by decide +kernel
theorem dX3_has_17 : decode cX3_has 17 = .ok (.if_icmp .ge 7, 3) := by decide +kernel
theorem dX3_has_20 : decode cX3_has 20 = .ok (.iconst 1, 1) := by decide +kernel
theorem dX3_has_21 : decode cX3_has 21 = .ok (.goto 4, 3) := by decide +kernel
theorem dX3_has_24 : decode cX3_has 24 = .ok (.iconst 0, 1) := by decide +kernel
theorem dX3_has_25 : decode cX3_has 25 = .ok (.ireturn, 1) := by decide +kernel
theorem dX3_add_0 : decode cX3_add 0 = .ok (.aload_n 0, 1) := by decide +kernel
theorem dX3_add_1 : decode cX3_add 1 = .ok (.getfield 18, 3) := by decide +kernel
theorem dX3_add_4 : decode cX3_add 4 = .ok (.bipush 50, 2) := by decide +kernel
theorem dX3_add_6 : decode cX3_add 6 = .ok (.if_icmp .lt 6, 3) := by decide +kernel
theorem dX3_add_9 : decode cX3_add 9 = .ok (.bipush (-3), 2) := by decide +kernel
theorem dX3_add_11 : decode cX3_add 11 = .ok (.ireturn, 1) := by decide +kernel
theorem dX3_add_12 : decode cX3_add 12 = .ok (.aload_n 0, 1) := by decide +kernel
theorem dX3_add_13 : decode cX3_add 13 = .ok (.getfield 9, 3) := by decide +kernel
theorem dX3_add_16 : decode cX3_add 16 = .ok (.aload_n 0, 1) := by decide +kernel
theorem dX3_add_17 : decode cX3_add 17 = .ok (.getfield 18, 3) := by decide +kernel
theorem dX3_add_20 : decode cX3_add 20 = .ok (.iload_n 1, 1) := by decide +kernel
theorem dX3_add_21 : decode cX3_add 21 = .ok (.iastore, 1) := by decide +kernel
theorem dX3_add_22 : decode cX3_add 22 = .ok (.aload_n 0, 1) := by decide +kernel
theorem dX3_add_23 : decode cX3_add 23 = .ok (.dup, 1) := by decide +kernel
theorem dX3_add_24 : decode cX3_add 24 = .ok (.getfield 18, 3) := by decide +kernel
theorem dX3_add_27 : decode cX3_add 27 = .ok (.dup_x1, 1) := by decide +kernel
theorem dX3_add_28 : decode cX3_add 28 = .ok (.iconst 1, 1) := by decide +kernel
theorem dX3_add_29 : decode cX3_add 29 = .ok (.iadd, 1) := by decide +kernel
theorem dX3_add_30 : decode cX3_add 30 = .ok (.putfield 18, 3) := by decide +kernel
theorem dX3_add_33 : decode cX3_add 33 = .ok (.ireturn, 1) := by decide +kernel
theorem dX3_kindOf_0 : decode cX3_kindOf 0 = .ok (.aload_n 0, 1) := by decide +kernel
theorem dX3_kindOf_1 : decode cX3_kindOf 1 = .ok (.iload_n 1, 1) := by decide +kernel
theorem dX3_kindOf_2 : decode cX3_kindOf 2 = .ok (.invokevirtual 26, 3) := by decide +kernel
theorem dX3_kindOf_5 : decode cX3_kindOf 5 = .ok (.ifCond .eq 12, 3) := by decide +kernel
theorem dX3_kindOf_8 : decode cX3_kindOf 8 = .ok (.aload_n 0, 1) := by decide +kernel
theorem dX3_kindOf_9 : decode cX3_kindOf 9 = .ok (.getfield 9, 3) := by decide +kernel
theorem dX3_kindOf_12 : decode cX3_kindOf 12 = .ok (.iload_n 1, 1) := by decide +kernel
theorem dX3_kindOf_13 : decode cX3_kindOf 13 = .ok (.iaload, 1) := by decide +kernel
theorem dX3_kindOf_14 : decode cX3_kindOf 14 = .ok (.goto 4, 3) := by decide +kernel
theorem dX3_kindOf_17 : decode cX3_kindOf 17 = .ok (.iconst (-1), 1) := by decide +kernel
theorem dX3_kindOf_18 : decode cX3_kindOf 18 = .ok (.ireturn, 1) := by decide +kernel
theorem dX3_isUnder_0 : decode cX3_isUnder 0 = .ok (.iload_n 1, 1) := by decide +kernel
theorem dX3_isUnder_1 : decode cX3_isUnder 1 = .ok (.istore_n 3, 1) := by decide +kernel
theorem dX3_isUnder_2 : decode cX3_isUnder 2 = .ok (.iconst 0, 1) := by decide +kernel
theorem dX3_isUnder_3 : decode cX3_isUnder 3 = .ok (.istore 4, 2) := by decide +kernel
theorem dX3_isUnder_5 : decode cX3_isUnder 5 = .ok (.iload 4, 2) := by decide +kernel
theorem dX3_isUnder_7 : decode cX3_isUnder 7 = .ok (.bipush 8, 2) := by decide +kernel
theorem dX3_isUnder_9 : decode cX3_isUnder 9 = .ok (.if_icmp .ge 19, 3) := by decide +kernel
theorem dX3_isUnder_12 : decode cX3_isUnder 12 = .ok (.iload_n 3, 1) := by decide +kernel
theorem dX3_isUnder_13 : decode cX3_isUnder 13 = .ok (.iload_n 2, 1) := by decide +kernel
theorem dX3_isUnder_14 : decode cX3_isUnder 14 = .ok (.if_icmp .eq 14, 3) := by decide +kernel
theorem dX3_isUnder_17 : decode cX3_isUnder 17 = .ok (.iload_n 3, 1) := by decide +kernel
theorem dX3_isUnder_18 : decode cX3_isUnder 18 = .ok (.invokestatic 30, 3) := by decide +kernel
theorem dX3_isUnder_21 : decode cX3_isUnder 21 = .ok (.istore_n 3, 1) := by decide +kernel
theorem dX3_isUnder_22 : decode cX3_isUnder 22 = .ok (.iinc 4 1, 3) := by decide +kernel
theorem dX3_isUnder_25 : decode cX3_isUnder 25 = .ok (.goto (-20), 3) := by decide +kernel
theorem dX3_isUnder_28 : decode cX3_isUnder 28 = .ok (.iload_n 3, 1) := by decide +kernel
theorem dX3_isUnder_29 : decode cX3_isUnder 29 = .ok (.iload_n 2, 1) := by decide +kernel
theorem dX3_isUnder_30 : decode cX3_isUnder 30 = .ok (.if_icmp .ne 7, 3) := by decide +kernel
theorem dX3_isUnder_33 : decode cX3_isUnder 33 = .ok (.iconst 1, 1) := by decide +kernel
theorem dX3_isUnder_34 : decode cX3_isUnder 34 = .ok (.goto 4, 3) := by decide +kernel
theorem dX3_isUnder_37 : decode cX3_isUnder 37 = .ok (.iconst 0, 1) := by decide +kernel
theorem dX3_isUnder_38 : decode cX3_isUnder 38 = .ok (.ireturn, 1) := by decide +kernel
theorem dX3_forget_0 : decode cX3_forget 0 = .ok (.aload_n 0, 1) := by decide +kernel
theorem dX3_forget_1 : decode cX3_forget 1 = .ok (.iconst 0, 1) := by decide +kernel
theorem dX3_forget_2 : decode cX3_forget 2 = .ok (.putfield 34, 3) := by decide +kernel
theorem dX3_forget_5 : decode cX3_forget 5 = .ok (.return_, 1) := by decide +kernel
theorem dX3_traced_0 : decode cX3_traced 0 = .ok (.iload_n 1, 1) := by decide +kernel
theorem dX3_traced_1 : decode cX3_traced 1 = .ok (.iconst 0, 1) := by decide +kernel
theorem dX3_traced_2 : decode cX3_traced 2 = .ok (.aload_n 0, 1) := by decide +kernel
theorem dX3_traced_3 : decode cX3_traced 3 = .ok (.getfield 34, 3) := by decide +kernel
theorem dX3_traced_6 : decode cX3_traced 6 = .ok (.bipush 24, 2) := by decide +kernel
theorem dX3_traced_8 : decode cX3_traced 8 = .ok (.invokestatic 37, 3) := by decide +kernel
theorem dX3_traced_11 : decode cX3_traced 11 = .ok (.iconst 1, 1) := by decide +kernel
theorem dX3_traced_12 : decode cX3_traced 12 = .ok (.isub, 1) := by decide +kernel
theorem dX3_traced_13 : decode cX3_traced 13 = .ok (.invokestatic 22, 3) := by decide +kernel
theorem dX3_traced_16 : decode cX3_traced 16 = .ok (.ifCond .eq 12, 3) := by decide +kernel
theorem dX3_traced_19 : decode cX3_traced 19 = .ok (.aload_n 0, 1) := by decide +kernel
theorem dX3_traced_20 : decode cX3_traced 20 = .ok (.getfield 15, 3) := by decide +kernel
theorem dX3_traced_23 : decode cX3_traced 23 = .ok (.iload_n 1, 1) := by decide +kernel
theorem dX3_traced_24 : decode cX3_traced 24 = .ok (.iaload, 1) := by decide +kernel
theorem dX3_traced_25 : decode cX3_traced 25 = .ok (.goto 4, 3) := by decide +kernel
theorem dX3_traced_28 : decode cX3_traced 28 = .ok (.iconst (-1), 1) := by decide +kernel
theorem dX3_traced_29 : decode cX3_traced 29 = .ok (.ireturn, 1) := by decide +kernel
theorem dX3_start_0 : decode cX3_start 0 = .ok (.aload_n 0, 1) := by decide +kernel
theorem dX3_start_1 : decode cX3_start 1 = .ok (.iload_n 1, 1) := by decide +kernel
theorem dX3_start_2 : decode cX3_start 2 = .ok (.putfield 43, 3) := by decide +kernel
theorem dX3_start_5 : decode cX3_start 5 = .ok (.aload_n 0, 1) := by decide +kernel
theorem dX3_start_6 : decode cX3_start 6 = .ok (.aload_n 0, 1) := by decide +kernel
theorem dX3_start_7 : decode cX3_start 7 = .ok (.iload_n 1, 1) := by decide +kernel
theorem dX3_start_8 : decode cX3_start 8 = .ok (.invokevirtual 46, 3) := by decide +kernel
theorem dX3_start_11 : decode cX3_start 11 = .ok (.putfield 49, 3) := by decide +kernel
theorem dX3_start_14 : decode cX3_start 14 = .ok (.aload_n 0, 1) := by decide +kernel
theorem dX3_start_15 : decode cX3_start 15 = .ok (.aload_n 0, 1) := by decide +kernel
theorem dX3_start_16 : decode cX3_start 16 = .ok (.getfield 49, 3) := by decide +kernel
theorem dX3_start_19 : decode cX3_start 19 = .ok (.iload_n 2, 1) := by decide +kernel
theorem dX3_start_20 : decode cX3_start 20 = .ok (.iload_n 3, 1) := by decide +kernel
theorem dX3_start_21 : decode cX3_start 21 = .ok (.iconst 0, 1) := by decide +kernel
theorem dX3_start_22 : decode cX3_start 22 = .ok (.invokevirtual 52, 3) := by decide +kernel
theorem dX3_start_25 : decode cX3_start 25 = .ok (.ireturn, 1) := by decide +kernel
theorem dX3_run_0 : decode cX3_run 0 = .ok (.iload_n 1, 1) := by decide +kernel
theorem dX3_run_1 : decode cX3_run 1 = .ok (.istore 5, 2) := by decide +kernel
theorem dX3_run_3 : decode cX3_run 3 = .ok (.iconst 0, 1) := by decide +kernel
theorem dX3_run_4 : decode cX3_run 4 = .ok (.istore 6, 2) := by decide +kernel
theorem dX3_run_6 : decode cX3_run 6 = .ok (.iload 6, 2) := by decide +kernel
theorem dX3_run_8 : decode cX3_run 8 = .ok (.bipush 8, 2) := by decide +kernel
theorem dX3_run_10 : decode cX3_run 10 = .ok (.if_icmp .ge 25, 3) := by decide +kernel
theorem dX3_run_13 : decode cX3_run 13 = .ok (.iload 5, 2) := by decide +kernel
theorem dX3_run_15 : decode cX3_run 15 = .ok (.iload_n 2, 1) := by decide +kernel
theorem dX3_run_16 : decode cX3_run 16 = .ok (.invokestatic 56, 3) := by decide +kernel
theorem dX3_run_19 : decode cX3_run 19 = .ok (.ifCond .ne 16, 3) := by decide +kernel
theorem dX3_run_22 : decode cX3_run 22 = .ok (.iload 5, 2) := by decide +kernel
theorem dX3_run_24 : decode cX3_run 24 = .ok (.invokestatic 30, 3) := by decide +kernel
theorem dX3_run_27 : decode cX3_run 27 = .ok (.istore 5, 2) := by decide +kernel
theorem dX3_run_29 : decode cX3_run 29 = .ok (.iinc 6 1, 3) := by decide +kernel
theorem dX3_run_32 : decode cX3_run 32 = .ok (.goto (-26), 3) := by decide +kernel
theorem dX3_run_35 : decode cX3_run 35 = .ok (.iload 5, 2) := by decide +kernel
theorem dX3_run_37 : decode cX3_run 37 = .ok (.iload_n 2, 1) := by decide +kernel
theorem dX3_run_38 : decode cX3_run 38 = .ok (.invokestatic 56, 3) := by decide +kernel
theorem dX3_run_41 : decode cX3_run 41 = .ok (.istore 6, 2) := by decide +kernel
theorem dX3_run_43 : decode cX3_run 43 = .ok (.iload 6, 2) := by decide +kernel
theorem dX3_run_45 : decode cX3_run 45 = .ok (.ifCond .eq 10, 3) := by decide +kernel
theorem dX3_run_48 : decode cX3_run 48 = .ok (.iload 4, 2) := by decide +kernel
theorem dX3_run_50 : decode cX3_run 50 = .ok (.bipush 30, 2) := by decide +kernel
theorem dX3_run_52 : decode cX3_run 52 = .ok (.if_icmp .le 5, 3) := by decide +kernel
theorem dX3_run_55 : decode cX3_run 55 = .ok (.iconst 0, 1) := by decide +kernel
theorem dX3_run_56 : decode cX3_run 56 = .ok (.ireturn, 1) := by decide +kernel
theorem dX3_run_57 : decode cX3_run 57 = .ok (.aload_n 0, 1) := by decide +kernel
theorem dX3_run_58 : decode cX3_run 58 = .ok (.getfield 34, 3) := by decide +kernel
theorem dX3_run_61 : decode cX3_run 61 = .ok (.bipush 24, 2) := by decide +kernel
theorem dX3_run_63 : decode cX3_run 63 = .ok (.if_icmp .ge 14, 3) := by decide +kernel
theorem dX3_run_66 : decode cX3_run 66 = .ok (.aload_n 0, 1) := by decide +kernel
theorem dX3_run_67 : decode cX3_run 67 = .ok (.getfield 15, 3) := by decide +kernel
theorem dX3_run_70 : decode cX3_run 70 = .ok (.aload_n 0, 1) := by decide +kernel
theorem dX3_run_71 : decode cX3_run 71 = .ok (.getfield 34, 3) := by decide +kernel
theorem dX3_run_74 : decode cX3_run 74 = .ok (.iload 6, 2) := by decide +kernel
theorem dX3_run_76 : decode cX3_run 76 = .ok (.iastore, 1) := by decide +kernel
theorem dX3_run_77 : decode cX3_run 77 = .ok (.aload_n 0, 1) := by decide +kernel
theorem dX3_run_78 : decode cX3_run 78 = .ok (.dup, 1) := by decide +kernel
theorem dX3_run_79 : decode cX3_run 79 = .ok (.getfield 34, 3) := by decide +kernel
theorem dX3_run_82 : decode cX3_run 82 = .ok (.iconst 1, 1) := by decide +kernel
theorem dX3_run_83 : decode cX3_run 83 = .ok (.iadd, 1) := by decide +kernel
theorem dX3_run_84 : decode cX3_run 84 = .ok (.putfield 34, 3) := by decide +kernel
theorem dX3_run_87 : decode cX3_run 87 = .ok (.aload_n 0, 1) := by decide +kernel
theorem dX3_run_88 : decode cX3_run 88 = .ok (.iload 6, 2) := by decide +kernel
theorem dX3_run_90 : decode cX3_run 90 = .ok (.iload 5, 2) := by decide +kernel
theorem dX3_run_92 : decode cX3_run 92 = .ok (.invokestatic 30, 3) := by decide +kernel
theorem dX3_run_95 : decode cX3_run 95 = .ok (.iload_n 3, 1) := by decide +kernel
theorem dX3_run_96 : decode cX3_run 96 = .ok (.iload 4, 2) := by decide +kernel
theorem dX3_run_98 : decode cX3_run 98 = .ok (.iconst 1, 1) := by decide +kernel
theorem dX3_run_99 : decode cX3_run 99 = .ok (.iadd, 1) := by decide +kernel
theorem dX3_run_100 : decode cX3_run 100 = .ok (.invokevirtual 59, 3) := by decide +kernel
theorem dX3_run_103 : decode cX3_run 103 = .ok (.ireturn, 1) := by decide +kernel
theorem dX3_runBody_0 : decode cX3_runBody 0 = .ok (.iload_n 1, 1) := by decide +kernel
theorem dX3_runBody_1 : decode cX3_runBody 1 = .ok (.lookupswitch 299 #[(1, 115), (2, 122), (10, 148), (11, 163), (20, 170), (30, 182), (40, 193), (50, 205), (60, 228), (61, 240), (70, 252), (80, 264), (81, 287)], 115) := by decide +kernel
theorem dX3_runBody_116 : decode cX3_runBody 116 = .ok (.iload_n 3, 1) := by decide +kernel
theorem dX3_runBody_117 : decode cX3_runBody 117 = .ok (.aload_n 0, 1) := by decide +kernel
theorem dX3_runBody_118 : decode cX3_runBody 118 = .ok (.getfield 43, 3) := by decide +kernel
theorem dX3_runBody_121 : decode cX3_runBody 121 = .ok (.iadd, 1) := by decide +kernel
theorem dX3_runBody_122 : decode cX3_runBody 122 = .ok (.ireturn, 1) := by decide +kernel
theorem dX3_runBody_123 : decode cX3_runBody 123 = .ok (.aload_n 0, 1) := by decide +kernel
theorem dX3_runBody_124 : decode cX3_runBody 124 = .ok (.aload_n 0, 1) := by decide +kernel
theorem dX3_runBody_125 : decode cX3_runBody 125 = .ok (.getfield 49, 3) := by decide +kernel
theorem dX3_runBody_128 : decode cX3_runBody 128 = .ok (.iconst 1, 1) := by decide +kernel
theorem dX3_runBody_129 : decode cX3_runBody 129 = .ok (.iload_n 3, 1) := by decide +kernel
theorem dX3_runBody_130 : decode cX3_runBody 130 = .ok (.iload 4, 2) := by decide +kernel
theorem dX3_runBody_132 : decode cX3_runBody 132 = .ok (.invokevirtual 52, 3) := by decide +kernel
theorem dX3_runBody_135 : decode cX3_runBody 135 = .ok (.aload_n 0, 1) := by decide +kernel
theorem dX3_runBody_136 : decode cX3_runBody 136 = .ok (.aload_n 0, 1) := by decide +kernel
theorem dX3_runBody_137 : decode cX3_runBody 137 = .ok (.getfield 49, 3) := by decide +kernel
theorem dX3_runBody_140 : decode cX3_runBody 140 = .ok (.iconst 2, 1) := by decide +kernel
theorem dX3_runBody_141 : decode cX3_runBody 141 = .ok (.iconst 1, 1) := by decide +kernel
theorem dX3_runBody_142 : decode cX3_runBody 142 = .ok (.iload 4, 2) := by decide +kernel
theorem dX3_runBody_144 : decode cX3_runBody 144 = .ok (.invokevirtual 52, 3) := by decide +kernel
theorem dX3_runBody_147 : decode cX3_runBody 147 = .ok (.isub, 1) := by decide +kernel
theorem dX3_runBody_148 : decode cX3_runBody 148 = .ok (.ireturn, 1) := by decide +kernel
theorem dX3_runBody_149 : decode cX3_runBody 149 = .ok (.aload_n 0, 1) := by decide +kernel
theorem dX3_runBody_150 : decode cX3_runBody 150 = .ok (.aload_n 0, 1) := by decide +kernel
theorem dX3_runBody_151 : decode cX3_runBody 151 = .ok (.getfield 49, 3) := by decide +kernel
theorem dX3_runBody_154 : decode cX3_runBody 154 = .ok (.iconst 0, 1) := by decide +kernel
theorem dX3_runBody_155 : decode cX3_runBody 155 = .ok (.iload_n 3, 1) := by decide +kernel
theorem dX3_runBody_156 : decode cX3_runBody 156 = .ok (.iload 4, 2) := by decide +kernel
theorem dX3_runBody_158 : decode cX3_runBody 158 = .ok (.invokevirtual 52, 3) := by decide +kernel
theorem dX3_runBody_161 : decode cX3_runBody 161 = .ok (.iconst 2, 1) := by decide +kernel
theorem dX3_runBody_162 : decode cX3_runBody 162 = .ok (.imul, 1) := by decide +kernel
theorem dX3_runBody_163 : decode cX3_runBody 163 = .ok (.ireturn, 1) := by decide +kernel
theorem dX3_runBody_164 : decode cX3_runBody 164 = .ok (.iload_n 3, 1) := by decide +kernel
theorem dX3_runBody_165 : decode cX3_runBody 165 = .ok (.aload_n 0, 1) := by decide +kernel
theorem dX3_runBody_166 : decode cX3_runBody 166 = .ok (.getfield 43, 3) := by decide +kernel
theorem dX3_runBody_169 : decode cX3_runBody 169 = .ok (.ixor, 1) := by decide +kernel
theorem dX3_runBody_170 : decode cX3_runBody 170 = .ok (.ireturn, 1) := by decide +kernel
theorem dX3_runBody_171 : decode cX3_runBody 171 = .ok (.aload_n 0, 1) := by decide +kernel
theorem dX3_runBody_172 : decode cX3_runBody 172 = .ok (.iload_n 2, 1) := by decide +kernel
theorem dX3_runBody_173 : decode cX3_runBody 173 = .ok (.iconst 0, 1) := by decide +kernel
theorem dX3_runBody_174 : decode cX3_runBody 174 = .ok (.iload_n 3, 1) := by decide +kernel
theorem dX3_runBody_175 : decode cX3_runBody 175 = .ok (.iload 4, 2) := by decide +kernel
theorem dX3_runBody_177 : decode cX3_runBody 177 = .ok (.invokevirtual 52, 3) := by decide +kernel
theorem dX3_runBody_180 : decode cX3_runBody 180 = .ok (.iconst 3, 1) := by decide +kernel
theorem dX3_runBody_181 : decode cX3_runBody 181 = .ok (.iadd, 1) := by decide +kernel
theorem dX3_runBody_182 : decode cX3_runBody 182 = .ok (.ireturn, 1) := by decide +kernel
theorem dX3_runBody_183 : decode cX3_runBody 183 = .ok (.aload_n 0, 1) := by decide +kernel
theorem dX3_runBody_184 : decode cX3_runBody 184 = .ok (.iload_n 2, 1) := by decide +kernel
theorem dX3_runBody_185 : decode cX3_runBody 185 = .ok (.iconst 1, 1) := by decide +kernel
theorem dX3_runBody_186 : decode cX3_runBody 186 = .ok (.iload_n 3, 1) := by decide +kernel
theorem dX3_runBody_187 : decode cX3_runBody 187 = .ok (.iload 4, 2) := by decide +kernel
theorem dX3_runBody_189 : decode cX3_runBody 189 = .ok (.invokevirtual 52, 3) := by decide +kernel
theorem dX3_runBody_192 : decode cX3_runBody 192 = .ok (.ineg, 1) := by decide +kernel
theorem dX3_runBody_193 : decode cX3_runBody 193 = .ok (.ireturn, 1) := by decide +kernel
theorem dX3_runBody_194 : decode cX3_runBody 194 = .ok (.aload_n 0, 1) := by decide +kernel
theorem dX3_runBody_195 : decode cX3_runBody 195 = .ok (.iload_n 2, 1) := by decide +kernel
theorem dX3_runBody_196 : decode cX3_runBody 196 = .ok (.iconst 2, 1) := by decide +kernel
theorem dX3_runBody_197 : decode cX3_runBody 197 = .ok (.iload_n 3, 1) := by decide +kernel
theorem dX3_runBody_198 : decode cX3_runBody 198 = .ok (.iload 4, 2) := by decide +kernel
theorem dX3_runBody_200 : decode cX3_runBody 200 = .ok (.invokevirtual 52, 3) := by decide +kernel
theorem dX3_runBody_203 : decode cX3_runBody 203 = .ok (.iconst 3, 1) := by decide +kernel
theorem dX3_runBody_204 : decode cX3_runBody 204 = .ok (.imul, 1) := by decide +kernel
theorem dX3_runBody_205 : decode cX3_runBody 205 = .ok (.ireturn, 1) := by decide +kernel
theorem dX3_runBody_206 : decode cX3_runBody 206 = .ok (.aload_n 0, 1) := by decide +kernel
theorem dX3_runBody_207 : decode cX3_runBody 207 = .ok (.iload_n 2, 1) := by decide +kernel
theorem dX3_runBody_208 : decode cX3_runBody 208 = .ok (.iconst 2, 1) := by decide +kernel
theorem dX3_runBody_209 : decode cX3_runBody 209 = .ok (.iload_n 3, 1) := by decide +kernel
theorem dX3_runBody_210 : decode cX3_runBody 210 = .ok (.iload 4, 2) := by decide +kernel
theorem dX3_runBody_212 : decode cX3_runBody 212 = .ok (.invokevirtual 52, 3) := by decide +kernel
theorem dX3_runBody_215 : decode cX3_runBody 215 = .ok (.aload_n 0, 1) := by decide +kernel
theorem dX3_runBody_216 : decode cX3_runBody 216 = .ok (.aload_n 0, 1) := by decide +kernel
theorem dX3_runBody_217 : decode cX3_runBody 217 = .ok (.getfield 49, 3) := by decide +kernel
theorem dX3_runBody_220 : decode cX3_runBody 220 = .ok (.iconst 0, 1) := by decide +kernel
theorem dX3_runBody_221 : decode cX3_runBody 221 = .ok (.iconst 2, 1) := by decide +kernel
theorem dX3_runBody_222 : decode cX3_runBody 222 = .ok (.iload 4, 2) := by decide +kernel
theorem dX3_runBody_224 : decode cX3_runBody 224 = .ok (.invokevirtual 52, 3) := by decide +kernel
theorem dX3_runBody_227 : decode cX3_runBody 227 = .ok (.isub, 1) := by decide +kernel
theorem dX3_runBody_228 : decode cX3_runBody 228 = .ok (.ireturn, 1) := by decide +kernel
theorem dX3_runBody_229 : decode cX3_runBody 229 = .ok (.aload_n 0, 1) := by decide +kernel
theorem dX3_runBody_230 : decode cX3_runBody 230 = .ok (.iload_n 2, 1) := by decide +kernel
theorem dX3_runBody_231 : decode cX3_runBody 231 = .ok (.iconst 0, 1) := by decide +kernel
theorem dX3_runBody_232 : decode cX3_runBody 232 = .ok (.iload_n 3, 1) := by decide +kernel
theorem dX3_runBody_233 : decode cX3_runBody 233 = .ok (.iconst 1, 1) := by decide +kernel
theorem dX3_runBody_234 : decode cX3_runBody 234 = .ok (.iadd, 1) := by decide +kernel
theorem dX3_runBody_235 : decode cX3_runBody 235 = .ok (.iload 4, 2) := by decide +kernel
theorem dX3_runBody_237 : decode cX3_runBody 237 = .ok (.invokevirtual 52, 3) := by decide +kernel
theorem dX3_runBody_240 : decode cX3_runBody 240 = .ok (.ireturn, 1) := by decide +kernel
theorem dX3_runBody_241 : decode cX3_runBody 241 = .ok (.aload_n 0, 1) := by decide +kernel
theorem dX3_runBody_242 : decode cX3_runBody 242 = .ok (.iload_n 2, 1) := by decide +kernel
theorem dX3_runBody_243 : decode cX3_runBody 243 = .ok (.iconst 3, 1) := by decide +kernel
theorem dX3_runBody_244 : decode cX3_runBody 244 = .ok (.iload_n 3, 1) := by decide +kernel
theorem dX3_runBody_245 : decode cX3_runBody 245 = .ok (.iload 4, 2) := by decide +kernel
theorem dX3_runBody_247 : decode cX3_runBody 247 = .ok (.invokevirtual 52, 3) := by decide +kernel
theorem dX3_runBody_250 : decode cX3_runBody 250 = .ok (.iconst 5, 1) := by decide +kernel
theorem dX3_runBody_251 : decode cX3_runBody 251 = .ok (.ixor, 1) := by decide +kernel
theorem dX3_runBody_252 : decode cX3_runBody 252 = .ok (.ireturn, 1) := by decide +kernel
theorem dX3_runBody_253 : decode cX3_runBody 253 = .ok (.aload_n 0, 1) := by decide +kernel
theorem dX3_runBody_254 : decode cX3_runBody 254 = .ok (.iload_n 2, 1) := by decide +kernel
theorem dX3_runBody_255 : decode cX3_runBody 255 = .ok (.iconst 0, 1) := by decide +kernel
theorem dX3_runBody_256 : decode cX3_runBody 256 = .ok (.iload_n 3, 1) := by decide +kernel
theorem dX3_runBody_257 : decode cX3_runBody 257 = .ok (.iload 4, 2) := by decide +kernel
theorem dX3_runBody_259 : decode cX3_runBody 259 = .ok (.invokevirtual 52, 3) := by decide +kernel
theorem dX3_runBody_262 : decode cX3_runBody 262 = .ok (.iconst 2, 1) := by decide +kernel
theorem dX3_runBody_263 : decode cX3_runBody 263 = .ok (.imul, 1) := by decide +kernel
theorem dX3_runBody_264 : decode cX3_runBody 264 = .ok (.ireturn, 1) := by decide +kernel
theorem dX3_runBody_265 : decode cX3_runBody 265 = .ok (.aload_n 0, 1) := by decide +kernel
theorem dX3_runBody_266 : decode cX3_runBody 266 = .ok (.iload_n 2, 1) := by decide +kernel
theorem dX3_runBody_267 : decode cX3_runBody 267 = .ok (.iconst 1, 1) := by decide +kernel
theorem dX3_runBody_268 : decode cX3_runBody 268 = .ok (.iload_n 3, 1) := by decide +kernel
theorem dX3_runBody_269 : decode cX3_runBody 269 = .ok (.iload 4, 2) := by decide +kernel
theorem dX3_runBody_271 : decode cX3_runBody 271 = .ok (.invokevirtual 52, 3) := by decide +kernel
theorem dX3_runBody_274 : decode cX3_runBody 274 = .ok (.aload_n 0, 1) := by decide +kernel
theorem dX3_runBody_275 : decode cX3_runBody 275 = .ok (.aload_n 0, 1) := by decide +kernel
theorem dX3_runBody_276 : decode cX3_runBody 276 = .ok (.getfield 49, 3) := by decide +kernel
theorem dX3_runBody_279 : decode cX3_runBody 279 = .ok (.iconst 2, 1) := by decide +kernel
theorem dX3_runBody_280 : decode cX3_runBody 280 = .ok (.iconst 2, 1) := by decide +kernel
theorem dX3_runBody_281 : decode cX3_runBody 281 = .ok (.iload 4, 2) := by decide +kernel
theorem dX3_runBody_283 : decode cX3_runBody 283 = .ok (.invokevirtual 52, 3) := by decide +kernel
theorem dX3_runBody_286 : decode cX3_runBody 286 = .ok (.iadd, 1) := by decide +kernel
theorem dX3_runBody_287 : decode cX3_runBody 287 = .ok (.ireturn, 1) := by decide +kernel
theorem dX3_runBody_288 : decode cX3_runBody 288 = .ok (.aload_n 0, 1) := by decide +kernel
theorem dX3_runBody_289 : decode cX3_runBody 289 = .ok (.iload_n 2, 1) := by decide +kernel
theorem dX3_runBody_290 : decode cX3_runBody 290 = .ok (.iconst 3, 1) := by decide +kernel
theorem dX3_runBody_291 : decode cX3_runBody 291 = .ok (.iload_n 3, 1) := by decide +kernel
theorem dX3_runBody_292 : decode cX3_runBody 292 = .ok (.iload 4, 2) := by decide +kernel
theorem dX3_runBody_294 : decode cX3_runBody 294 = .ok (.invokevirtual 52, 3) := by decide +kernel
theorem dX3_runBody_297 : decode cX3_runBody 297 = .ok (.iconst 1, 1) := by decide +kernel
theorem dX3_runBody_298 : decode cX3_runBody 298 = .ok (.isub, 1) := by decide +kernel
theorem dX3_runBody_299 : decode cX3_runBody 299 = .ok (.ireturn, 1) := by decide +kernel
theorem dX3_runBody_300 : decode cX3_runBody 300 = .ok (.iconst 0, 1) := by decide +kernel
theorem dX3_runBody_301 : decode cX3_runBody 301 = .ok (.ireturn, 1) := by decide +kernel
theorem dX3_aboveOf_0 : decode cX3_aboveOf 0 = .ok (.iload_n 0, 1) := by decide +kernel
theorem dX3_aboveOf_1 : decode cX3_aboveOf 1 = .ok (.iconst 0, 1) := by decide +kernel
theorem dX3_aboveOf_2 : decode cX3_aboveOf 2 = .ok (.bipush 7, 2) := by decide +kernel
theorem dX3_aboveOf_4 : decode cX3_aboveOf 4 = .ok (.invokestatic 22, 3) := by decide +kernel
theorem dX3_aboveOf_7 : decode cX3_aboveOf 7 = .ok (.ifCond .eq 11, 3) := by decide +kernel
theorem dX3_aboveOf_10 : decode cX3_aboveOf 10 = .ok (.getstatic 62, 3) := by decide +kernel
theorem dX3_aboveOf_13 : decode cX3_aboveOf 13 = .ok (.iload_n 0, 1) := by decide +kernel
theorem dX3_aboveOf_14 : decode cX3_aboveOf 14 = .ok (.iaload, 1) := by decide +kernel
theorem dX3_aboveOf_15 : decode cX3_aboveOf 15 = .ok (.goto 4, 3) := by decide +kernel
theorem dX3_aboveOf_18 : decode cX3_aboveOf 18 = .ok (.iconst (-1), 1) := by decide +kernel
theorem dX3_aboveOf_19 : decode cX3_aboveOf 19 = .ok (.ireturn, 1) := by decide +kernel
theorem dX3_bodyOf_0 : decode cX3_bodyOf 0 = .ok (.iload_n 0, 1) := by decide +kernel
theorem dX3_bodyOf_1 : decode cX3_bodyOf 1 = .ok (.iconst 0, 1) := by decide +kernel
theorem dX3_bodyOf_2 : decode cX3_bodyOf 2 = .ok (.bipush 7, 2) := by decide +kernel
theorem dX3_bodyOf_4 : decode cX3_bodyOf 4 = .ok (.invokestatic 22, 3) := by decide +kernel
theorem dX3_bodyOf_7 : decode cX3_bodyOf 7 = .ok (.ifCond .ne 5, 3) := by decide +kernel
theorem dX3_bodyOf_10 : decode cX3_bodyOf 10 = .ok (.iconst 0, 1) := by decide +kernel
theorem dX3_bodyOf_11 : decode cX3_bodyOf 11 = .ok (.ireturn, 1) := by decide +kernel
theorem dX3_bodyOf_12 : decode cX3_bodyOf 12 = .ok (.iload_n 1, 1) := by decide +kernel
theorem dX3_bodyOf_13 : decode cX3_bodyOf 13 = .ok (.tableswitch 45 0 2 #[27, 33, 39], 27) := by decide +kernel
theorem dX3_bodyOf_40 : decode cX3_bodyOf 40 = .ok (.getstatic 65, 3) := by decide +kernel
theorem dX3_bodyOf_43 : decode cX3_bodyOf 43 = .ok (.iload_n 0, 1) := by decide +kernel
theorem dX3_bodyOf_44 : decode cX3_bodyOf 44 = .ok (.iaload, 1) := by decide +kernel
theorem dX3_bodyOf_45 : decode cX3_bodyOf 45 = .ok (.ireturn, 1) := by decide +kernel
theorem dX3_bodyOf_46 : decode cX3_bodyOf 46 = .ok (.getstatic 68, 3) := by decide +kernel
theorem dX3_bodyOf_49 : decode cX3_bodyOf 49 = .ok (.iload_n 0, 1) := by decide +kernel
theorem dX3_bodyOf_50 : decode cX3_bodyOf 50 = .ok (.iaload, 1) := by decide +kernel
theorem dX3_bodyOf_51 : decode cX3_bodyOf 51 = .ok (.ireturn, 1) := by decide +kernel
theorem dX3_bodyOf_52 : decode cX3_bodyOf 52 = .ok (.getstatic 71, 3) := by decide +kernel
theorem dX3_bodyOf_55 : decode cX3_bodyOf 55 = .ok (.iload_n 0, 1) := by decide +kernel
theorem dX3_bodyOf_56 : decode cX3_bodyOf 56 = .ok (.iaload, 1) := by decide +kernel
theorem dX3_bodyOf_57 : decode cX3_bodyOf 57 = .ok (.ireturn, 1) := by decide +kernel
theorem dX3_bodyOf_58 : decode cX3_bodyOf 58 = .ok (.getstatic 74, 3) := by decide +kernel
theorem dX3_bodyOf_61 : decode cX3_bodyOf 61 = .ok (.iload_n 0, 1) := by decide +kernel
theorem dX3_bodyOf_62 : decode cX3_bodyOf 62 = .ok (.iaload, 1) := by decide +kernel
theorem dX3_bodyOf_63 : decode cX3_bodyOf 63 = .ok (.ireturn, 1) := by decide +kernel
theorem dX4_init_0 : decode cX4_init 0 = .ok (.aload_n 0, 1) := by decide +kernel
theorem dX4_init_1 : decode cX4_init 1 = .ok (.invokespecial 3, 3) := by decide +kernel
theorem dX4_init_4 : decode cX4_init 4 = .ok (.aload_n 0, 1) := by decide +kernel
theorem dX4_init_5 : decode cX4_init 5 = .ok (.bipush 6, 2) := by decide +kernel
theorem dX4_init_7 : decode cX4_init 7 = .ok (.newarray .int, 2) := by decide +kernel
theorem dX4_init_9 : decode cX4_init 9 = .ok (.putfield 9, 3) := by decide +kernel
theorem dX4_init_12 : decode cX4_init 12 = .ok (.aload_n 0, 1) := by decide +kernel
theorem dX4_init_13 : decode cX4_init 13 = .ok (.bipush 6, 2) := by decide +kernel
theorem dX4_init_15 : decode cX4_init 15 = .ok (.newarray .int, 2) := by decide +kernel
theorem dX4_init_17 : decode cX4_init 17 = .ok (.putfield 15, 3) := by decide +kernel
theorem dX4_init_20 : decode cX4_init 20 = .ok (.aload_n 0, 1) := by decide +kernel
theorem dX4_init_21 : decode cX4_init 21 = .ok (.bipush 6, 2) := by decide +kernel
theorem dX4_init_23 : decode cX4_init 23 = .ok (.bipush 60, 2) := by decide +kernel
theorem dX4_init_25 : decode cX4_init 25 = .ok (.multianewarray 18 2, 4) := by decide +kernel
theorem dX4_init_29 : decode cX4_init 29 = .ok (.putfield 20, 3) := by decide +kernel
theorem dX4_init_32 : decode cX4_init 32 = .ok (.iconst 0, 1) := by decide +kernel
theorem dX4_init_33 : decode cX4_init 33 = .ok (.istore_n 1, 1) := by decide +kernel
theorem dX4_init_34 : decode cX4_init 34 = .ok (.iload_n 1, 1) := by decide +kernel
theorem dX4_init_35 : decode cX4_init 35 = .ok (.bipush 6, 2) := by decide +kernel
theorem dX4_init_37 : decode cX4_init 37 = .ok (.if_icmp .ge 16, 3) := by decide +kernel
theorem dX4_init_40 : decode cX4_init 40 = .ok (.aload_n 0, 1) := by decide +kernel
theorem dX4_init_41 : decode cX4_init 41 = .ok (.getfield 9, 3) := by decide +kernel
theorem dX4_init_44 : decode cX4_init 44 = .ok (.iload_n 1, 1) := by decide +kernel
theorem dX4_init_45 : decode cX4_init 45 = .ok (.iconst (-1), 1) := by decide +kernel
theorem dX4_init_46 : decode cX4_init 46 = .ok (.iastore, 1) := by decide +kernel
theorem dX4_init_47 : decode cX4_init 47 = .ok (.iinc 1 1, 3) := by decide +kernel
theorem dX4_init_50 : decode cX4_init 50 = .ok (.goto (-16), 3) := by decide +kernel
theorem dX4_init_53 : decode cX4_init 53 = .ok (.return_, 1) := by decide +kernel
theorem dX4_isShelf_0 : decode cX4_isShelf 0 = .ok (.iload_n 1, 1) := by decide +kernel
theorem dX4_isShelf_1 : decode cX4_isShelf 1 = .ok (.iconst 0, 1) := by decide +kernel
theorem dX4_isShelf_2 : decode cX4_isShelf 2 = .ok (.iconst 5, 1) := by decide +kernel
theorem dX4_isShelf_3 : decode cX4_isShelf 3 = .ok (.invokestatic 23, 3) := by decide +kernel
theorem dX4_isShelf_6 : decode cX4_isShelf 6 = .ok (.ireturn, 1) := by decide +kernel
theorem dX4_heldOn_0 : decode cX4_heldOn 0 = .ok (.aload_n 0, 1) := by decide +kernel
theorem dX4_heldOn_1 : decode cX4_heldOn 1 = .ok (.iload_n 1, 1) := by decide +kernel
theorem dX4_heldOn_2 : decode cX4_heldOn 2 = .ok (.invokevirtual 27, 3) := by decide +kernel
theorem dX4_heldOn_5 : decode cX4_heldOn 5 = .ok (.ifCond .eq 12, 3) := by decide +kernel
theorem dX4_heldOn_8 : decode cX4_heldOn 8 = .ok (.aload_n 0, 1) := by decide +kernel
theorem dX4_heldOn_9 : decode cX4_heldOn 9 = .ok (.getfield 9, 3) := by decide +kernel
theorem dX4_heldOn_12 : decode cX4_heldOn 12 = .ok (.iload_n 1, 1) := by decide +kernel
theorem dX4_heldOn_13 : decode cX4_heldOn 13 = .ok (.iaload, 1) := by decide +kernel
theorem dX4_heldOn_14 : decode cX4_heldOn 14 = .ok (.goto 4, 3) := by decide +kernel
theorem dX4_heldOn_17 : decode cX4_heldOn 17 = .ok (.iconst (-1), 1) := by decide +kernel
theorem dX4_heldOn_18 : decode cX4_heldOn 18 = .ok (.ireturn, 1) := by decide +kernel
theorem dX4_sizeOn_0 : decode cX4_sizeOn 0 = .ok (.aload_n 0, 1) := by decide +kernel
theorem dX4_sizeOn_1 : decode cX4_sizeOn 1 = .ok (.iload_n 1, 1) := by decide +kernel
theorem dX4_sizeOn_2 : decode cX4_sizeOn 2 = .ok (.invokevirtual 27, 3) := by decide +kernel
theorem dX4_sizeOn_5 : decode cX4_sizeOn 5 = .ok (.ifCond .eq 12, 3) := by decide +kernel
theorem dX4_sizeOn_8 : decode cX4_sizeOn 8 = .ok (.aload_n 0, 1) := by decide +kernel
theorem dX4_sizeOn_9 : decode cX4_sizeOn 9 = .ok (.getfield 15, 3) := by decide +kernel
theorem dX4_sizeOn_12 : decode cX4_sizeOn 12 = .ok (.iload_n 1, 1) := by decide +kernel
theorem dX4_sizeOn_13 : decode cX4_sizeOn 13 = .ok (.iaload, 1) := by decide +kernel
theorem dX4_sizeOn_14 : decode cX4_sizeOn 14 = .ok (.goto 4, 3) := by decide +kernel
theorem dX4_sizeOn_17 : decode cX4_sizeOn 17 = .ok (.iconst 0, 1) := by decide +kernel
theorem dX4_sizeOn_18 : decode cX4_sizeOn 18 = .ok (.ireturn, 1) := by decide +kernel
theorem dX4_hold_0 : decode cX4_hold 0 = .ok (.aload_n 0, 1) := by decide +kernel
theorem dX4_hold_1 : decode cX4_hold 1 = .ok (.iload_n 1, 1) := by decide +kernel
theorem dX4_hold_2 : decode cX4_hold 2 = .ok (.invokevirtual 27, 3) := by decide +kernel
theorem dX4_hold_5 : decode cX4_hold 5 = .ok (.ifCond .ne 4, 3) := by decide +kernel
theorem dX4_hold_8 : decode cX4_hold 8 = .ok (.return_, 1) := by decide +kernel
theorem dX4_hold_9 : decode cX4_hold 9 = .ok (.aload_n 0, 1) := by decide +kernel
theorem dX4_hold_10 : decode cX4_hold 10 = .ok (.getfield 9, 3) := by decide +kernel
theorem dX4_hold_13 : decode cX4_hold 13 = .ok (.iload_n 1, 1) := by decide +kernel
theorem dX4_hold_14 : decode cX4_hold 14 = .ok (.iload_n 2, 1) := by decide +kernel
theorem dX4_hold_15 : decode cX4_hold 15 = .ok (.iastore, 1) := by decide +kernel
theorem dX4_hold_16 : decode cX4_hold 16 = .ok (.aload_n 0, 1) := by decide +kernel
theorem dX4_hold_17 : decode cX4_hold 17 = .ok (.getfield 15, 3) := by decide +kernel
theorem dX4_hold_20 : decode cX4_hold 20 = .ok (.iload_n 1, 1) := by decide +kernel
theorem dX4_hold_21 : decode cX4_hold 21 = .ok (.iload_n 3, 1) := by decide +kernel
theorem dX4_hold_22 : decode cX4_hold 22 = .ok (.iastore, 1) := by decide +kernel
theorem dX4_hold_23 : decode cX4_hold 23 = .ok (.iconst 0, 1) := by decide +kernel
theorem dX4_hold_24 : decode cX4_hold 24 = .ok (.istore 4, 2) := by decide +kernel
theorem dX4_hold_26 : decode cX4_hold 26 = .ok (.iload 4, 2) := by decide +kernel
theorem dX4_hold_28 : decode cX4_hold 28 = .ok (.bipush 60, 2) := by decide +kernel
theorem dX4_hold_30 : decode cX4_hold 30 = .ok (.if_icmp .ge 19, 3) := by decide +kernel
theorem dX4_hold_33 : decode cX4_hold 33 = .ok (.aload_n 0, 1) := by decide +kernel
theorem dX4_hold_34 : decode cX4_hold 34 = .ok (.getfield 20, 3) := by decide +kernel
theorem dX4_hold_37 : decode cX4_hold 37 = .ok (.iload_n 1, 1) := by decide +kernel
theorem dX4_hold_38 : decode cX4_hold 38 = .ok (.aaload, 1) := by decide +kernel
theorem dX4_hold_39 : decode cX4_hold 39 = .ok (.iload 4, 2) := by decide +kernel
theorem dX4_hold_41 : decode cX4_hold 41 = .ok (.lconst 0, 1) := by decide +kernel
theorem dX4_hold_42 : decode cX4_hold 42 = .ok (.lastore, 1) := by decide +kernel
theorem dX4_hold_43 : decode cX4_hold 43 = .ok (.iinc 4 1, 3) := by decide +kernel
theorem dX4_hold_46 : decode cX4_hold 46 = .ok (.goto (-20), 3) := by decide +kernel
theorem dX4_hold_49 : decode cX4_hold 49 = .ok (.return_, 1) := by decide +kernel
theorem dX4_refusalOf_0 : decode cX4_refusalOf 0 = .ok (.aload_n 0, 1) := by decide +kernel
theorem dX4_refusalOf_1 : decode cX4_refusalOf 1 = .ok (.iload_n 1, 1) := by decide +kernel
theorem dX4_refusalOf_2 : decode cX4_refusalOf 2 = .ok (.invokevirtual 27, 3) := by decide +kernel
theorem dX4_refusalOf_5 : decode cX4_refusalOf 5 = .ok (.ifCond .ne 5, 3) := by decide +kernel
theorem dX4_refusalOf_8 : decode cX4_refusalOf 8 = .ok (.iconst (-1), 1) := by decide +kernel
theorem dX4_refusalOf_9 : decode cX4_refusalOf 9 = .ok (.ireturn, 1) := by decide +kernel
theorem dX4_refusalOf_10 : decode cX4_refusalOf 10 = .ok (.aload_n 0, 1) := by decide +kernel
theorem dX4_refusalOf_11 : decode cX4_refusalOf 11 = .ok (.getfield 9, 3) := by decide +kernel
theorem dX4_refusalOf_14 : decode cX4_refusalOf 14 = .ok (.iload_n 1, 1) := by decide +kernel
theorem dX4_refusalOf_15 : decode cX4_refusalOf 15 = .ok (.iaload, 1) := by decide +kernel
theorem dX4_refusalOf_16 : decode cX4_refusalOf 16 = .ok (.iconst (-1), 1) := by decide +kernel
theorem dX4_refusalOf_17 : decode cX4_refusalOf 17 = .ok (.if_icmp .ne 6, 3) := by decide +kernel
theorem dX4_refusalOf_20 : decode cX4_refusalOf 20 = .ok (.bipush (-11), 2) := by decide +kernel
theorem dX4_refusalOf_22 : decode cX4_refusalOf 22 = .ok (.ireturn, 1) := by decide +kernel
theorem dX4_refusalOf_23 : decode cX4_refusalOf 23 = .ok (.aload_n 0, 1) := by decide +kernel
theorem dX4_refusalOf_24 : decode cX4_refusalOf 24 = .ok (.getfield 9, 3) := by decide +kernel
theorem dX4_refusalOf_27 : decode cX4_refusalOf 27 = .ok (.iload_n 1, 1) := by decide +kernel
theorem dX4_refusalOf_28 : decode cX4_refusalOf 28 = .ok (.iaload, 1) := by decide +kernel
theorem dX4_refusalOf_29 : decode cX4_refusalOf 29 = .ok (.iconst 5, 1) := by decide +kernel
theorem dX4_refusalOf_30 : decode cX4_refusalOf 30 = .ok (.if_icmp .ne 6, 3) := by decide +kernel
theorem dX4_refusalOf_33 : decode cX4_refusalOf 33 = .ok (.bipush (-12), 2) := by decide +kernel
theorem dX4_refusalOf_35 : decode cX4_refusalOf 35 = .ok (.ireturn, 1) := by decide +kernel
theorem dX4_refusalOf_36 : decode cX4_refusalOf 36 = .ok (.aload_n 0, 1) := by decide +kernel
theorem dX4_refusalOf_37 : decode cX4_refusalOf 37 = .ok (.iload_n 1, 1) := by decide +kernel
theorem dX4_refusalOf_38 : decode cX4_refusalOf 38 = .ok (.iload_n 2, 1) := by decide +kernel
theorem dX4_refusalOf_39 : decode cX4_refusalOf 39 = .ok (.iconst 1, 1) := by decide +kernel
theorem dX4_refusalOf_40 : decode cX4_refusalOf 40 = .ok (.invokevirtual 31, 3) := by decide +kernel
theorem dX4_refusalOf_43 : decode cX4_refusalOf 43 = .ok (.ifCond .eq 7, 3) := by decide +kernel
theorem dX4_refusalOf_46 : decode cX4_refusalOf 46 = .ok (.iconst 0, 1) := by decide +kernel
theorem dX4_refusalOf_47 : decode cX4_refusalOf 47 = .ok (.goto 5, 3) := by decide +kernel
theorem dX4_refusalOf_50 : decode cX4_refusalOf 50 = .ok (.bipush (-13), 2) := by decide +kernel
theorem dX4_refusalOf_52 : decode cX4_refusalOf 52 = .ok (.ireturn, 1) := by decide +kernel
theorem dX4_refusalOfTwo_0 : decode cX4_refusalOfTwo 0 = .ok (.aload_n 0, 1) := by decide +kernel
theorem dX4_refusalOfTwo_1 : decode cX4_refusalOfTwo 1 = .ok (.iload_n 1, 1) := by decide +kernel
theorem dX4_refusalOfTwo_2 : decode cX4_refusalOfTwo 2 = .ok (.invokevirtual 27, 3) := by decide +kernel
theorem dX4_refusalOfTwo_5 : decode cX4_refusalOfTwo 5 = .ok (.ifCond .eq 11, 3) := by decide +kernel
theorem dX4_refusalOfTwo_8 : decode cX4_refusalOfTwo 8 = .ok (.aload_n 0, 1) := by decide +kernel
theorem dX4_refusalOfTwo_9 : decode cX4_refusalOfTwo 9 = .ok (.iload_n 2, 1) := by decide +kernel
theorem dX4_refusalOfTwo_10 : decode cX4_refusalOfTwo 10 = .ok (.invokevirtual 27, 3) := by decide +kernel
theorem dX4_refusalOfTwo_13 : decode cX4_refusalOfTwo 13 = .ok (.ifCond .ne 5, 3) := by decide +kernel
theorem dX4_refusalOfTwo_16 : decode cX4_refusalOfTwo 16 = .ok (.iconst (-1), 1) := by decide +kernel
theorem dX4_refusalOfTwo_17 : decode cX4_refusalOfTwo 17 = .ok (.ireturn, 1) := by decide +kernel
theorem dX4_refusalOfTwo_18 : decode cX4_refusalOfTwo 18 = .ok (.aload_n 0, 1) := by decide +kernel
theorem dX4_refusalOfTwo_19 : decode cX4_refusalOfTwo 19 = .ok (.getfield 9, 3) := by decide +kernel
theorem dX4_refusalOfTwo_22 : decode cX4_refusalOfTwo 22 = .ok (.iload_n 1, 1) := by decide +kernel
theorem dX4_refusalOfTwo_23 : decode cX4_refusalOfTwo 23 = .ok (.iaload, 1) := by decide +kernel
theorem dX4_refusalOfTwo_24 : decode cX4_refusalOfTwo 24 = .ok (.iconst (-1), 1) := by decide +kernel
theorem dX4_refusalOfTwo_25 : decode cX4_refusalOfTwo 25 = .ok (.if_icmp .eq 13, 3) := by decide +kernel
theorem dX4_refusalOfTwo_28 : decode cX4_refusalOfTwo 28 = .ok (.aload_n 0, 1) := by decide +kernel
theorem dX4_refusalOfTwo_29 : decode cX4_refusalOfTwo 29 = .ok (.getfield 9, 3) := by decide +kernel
theorem dX4_refusalOfTwo_32 : decode cX4_refusalOfTwo 32 = .ok (.iload_n 2, 1) := by decide +kernel
theorem dX4_refusalOfTwo_33 : decode cX4_refusalOfTwo 33 = .ok (.iaload, 1) := by decide +kernel
theorem dX4_refusalOfTwo_34 : decode cX4_refusalOfTwo 34 = .ok (.iconst (-1), 1) := by decide +kernel
theorem dX4_refusalOfTwo_35 : decode cX4_refusalOfTwo 35 = .ok (.if_icmp .ne 6, 3) := by decide +kernel
theorem dX4_refusalOfTwo_38 : decode cX4_refusalOfTwo 38 = .ok (.bipush (-11), 2) := by decide +kernel
theorem dX4_refusalOfTwo_40 : decode cX4_refusalOfTwo 40 = .ok (.ireturn, 1) := by decide +kernel
theorem dX4_refusalOfTwo_41 : decode cX4_refusalOfTwo 41 = .ok (.aload_n 0, 1) := by decide +kernel
theorem dX4_refusalOfTwo_42 : decode cX4_refusalOfTwo 42 = .ok (.getfield 9, 3) := by decide +kernel
theorem dX4_refusalOfTwo_45 : decode cX4_refusalOfTwo 45 = .ok (.iload_n 1, 1) := by decide +kernel
theorem dX4_refusalOfTwo_46 : decode cX4_refusalOfTwo 46 = .ok (.iaload, 1) := by decide +kernel
theorem dX4_refusalOfTwo_47 : decode cX4_refusalOfTwo 47 = .ok (.iconst 5, 1) := by decide +kernel
theorem dX4_refusalOfTwo_48 : decode cX4_refusalOfTwo 48 = .ok (.if_icmp .eq 18, 3) := by decide +kernel
theorem dX4_refusalOfTwo_51 : decode cX4_refusalOfTwo 51 = .ok (.aload_n 0, 1) := by decide +kernel
theorem dX4_refusalOfTwo_52 : decode cX4_refusalOfTwo 52 = .ok (.getfield 9, 3) := by decide +kernel
theorem dX4_refusalOfTwo_55 : decode cX4_refusalOfTwo 55 = .ok (.iload_n 1, 1) := by decide +kernel
theorem dX4_refusalOfTwo_56 : decode cX4_refusalOfTwo 56 = .ok (.iaload, 1) := by decide +kernel
theorem dX4_refusalOfTwo_57 : decode cX4_refusalOfTwo 57 = .ok (.aload_n 0, 1) := by decide +kernel
theorem dX4_refusalOfTwo_58 : decode cX4_refusalOfTwo 58 = .ok (.getfield 9, 3) := by decide +kernel
theorem dX4_refusalOfTwo_61 : decode cX4_refusalOfTwo 61 = .ok (.iload_n 2, 1) := by decide +kernel
theorem dX4_refusalOfTwo_62 : decode cX4_refusalOfTwo 62 = .ok (.iaload, 1) := by decide +kernel
theorem dX4_refusalOfTwo_63 : decode cX4_refusalOfTwo 63 = .ok (.if_icmp .eq 8, 3) := by decide +kernel
theorem dX4_refusalOfTwo_66 : decode cX4_refusalOfTwo 66 = .ok (.bipush (-12), 2) := by decide +kernel
theorem dX4_refusalOfTwo_68 : decode cX4_refusalOfTwo 68 = .ok (.goto 4, 3) := by decide +kernel
theorem dX4_refusalOfTwo_71 : decode cX4_refusalOfTwo 71 = .ok (.iconst 0, 1) := by decide +kernel
theorem dX4_refusalOfTwo_72 : decode cX4_refusalOfTwo 72 = .ok (.ireturn, 1) := by decide +kernel
theorem dX4_holdsPart_0 : decode cX4_holdsPart 0 = .ok (.aload_n 0, 1) := by decide +kernel
theorem dX4_holdsPart_1 : decode cX4_holdsPart 1 = .ok (.iload_n 1, 1) := by decide +kernel
theorem dX4_holdsPart_2 : decode cX4_holdsPart 2 = .ok (.invokevirtual 27, 3) := by decide +kernel
theorem dX4_holdsPart_5 : decode cX4_holdsPart 5 = .ok (.ifCond .eq 37, 3) := by decide +kernel
theorem dX4_holdsPart_8 : decode cX4_holdsPart 8 = .ok (.iload_n 3, 1) := by decide +kernel
theorem dX4_holdsPart_9 : decode cX4_holdsPart 9 = .ok (.iconst 0, 1) := by decide +kernel
theorem dX4_holdsPart_10 : decode cX4_holdsPart 10 = .ok (.aload_n 0, 1) := by decide +kernel
theorem dX4_holdsPart_11 : decode cX4_holdsPart 11 = .ok (.getfield 15, 3) := by decide +kernel
theorem dX4_holdsPart_14 : decode cX4_holdsPart 14 = .ok (.iload_n 1, 1) := by decide +kernel
theorem dX4_holdsPart_15 : decode cX4_holdsPart 15 = .ok (.iaload, 1) := by decide +kernel
theorem dX4_holdsPart_16 : decode cX4_holdsPart 16 = .ok (.invokestatic 23, 3) := by decide +kernel
theorem dX4_holdsPart_19 : decode cX4_holdsPart 19 = .ok (.ifCond .eq 23, 3) := by decide +kernel
theorem dX4_holdsPart_22 : decode cX4_holdsPart 22 = .ok (.iload_n 2, 1) := by decide +kernel
theorem dX4_holdsPart_23 : decode cX4_holdsPart 23 = .ok (.iconst 0, 1) := by decide +kernel
theorem dX4_holdsPart_24 : decode cX4_holdsPart 24 = .ok (.aload_n 0, 1) := by decide +kernel
theorem dX4_holdsPart_25 : decode cX4_holdsPart 25 = .ok (.getfield 15, 3) := by decide +kernel
theorem dX4_holdsPart_28 : decode cX4_holdsPart 28 = .ok (.iload_n 1, 1) := by decide +kernel
theorem dX4_holdsPart_29 : decode cX4_holdsPart 29 = .ok (.iaload, 1) := by decide +kernel
theorem dX4_holdsPart_30 : decode cX4_holdsPart 30 = .ok (.iload_n 3, 1) := by decide +kernel
theorem dX4_holdsPart_31 : decode cX4_holdsPart 31 = .ok (.isub, 1) := by decide +kernel
theorem dX4_holdsPart_32 : decode cX4_holdsPart 32 = .ok (.invokestatic 23, 3) := by decide +kernel
theorem dX4_holdsPart_35 : decode cX4_holdsPart 35 = .ok (.ifCond .eq 7, 3) := by decide +kernel
theorem dX4_holdsPart_38 : decode cX4_holdsPart 38 = .ok (.iconst 1, 1) := by decide +kernel
theorem dX4_holdsPart_39 : decode cX4_holdsPart 39 = .ok (.goto 4, 3) := by decide +kernel
theorem dX4_holdsPart_42 : decode cX4_holdsPart 42 = .ok (.iconst 0, 1) := by decide +kernel
theorem dX4_holdsPart_43 : decode cX4_holdsPart 43 = .ok (.ireturn, 1) := by decide +kernel
theorem dX4_read_0 : decode cX4_read 0 = .ok (.aload_n 0, 1) := by decide +kernel
theorem dX4_read_1 : decode cX4_read 1 = .ok (.iload_n 1, 1) := by decide +kernel
theorem dX4_read_2 : decode cX4_read 2 = .ok (.invokevirtual 27, 3) := by decide +kernel
theorem dX4_read_5 : decode cX4_read 5 = .ok (.ifCond .eq 24, 3) := by decide +kernel
theorem dX4_read_8 : decode cX4_read 8 = .ok (.iload_n 2, 1) := by decide +kernel
theorem dX4_read_9 : decode cX4_read 9 = .ok (.iconst 0, 1) := by decide +kernel
theorem dX4_read_10 : decode cX4_read 10 = .ok (.bipush 59, 2) := by decide +kernel
theorem dX4_read_12 : decode cX4_read 12 = .ok (.invokestatic 23, 3) := by decide +kernel
theorem dX4_read_15 : decode cX4_read 15 = .ok (.ifCond .eq 14, 3) := by decide +kernel
theorem dX4_read_18 : decode cX4_read 18 = .ok (.aload_n 0, 1) := by decide +kernel
theorem dX4_read_19 : decode cX4_read 19 = .ok (.getfield 20, 3) := by decide +kernel
theorem dX4_read_22 : decode cX4_read 22 = .ok (.iload_n 1, 1) := by decide +kernel
theorem dX4_read_23 : decode cX4_read 23 = .ok (.aaload, 1) := by decide +kernel
theorem dX4_read_24 : decode cX4_read 24 = .ok (.iload_n 2, 1) := by decide +kernel
theorem dX4_read_25 : decode cX4_read 25 = .ok (.laload, 1) := by decide +kernel
theorem dX4_read_26 : decode cX4_read 26 = .ok (.goto 4, 3) := by decide +kernel
theorem dX4_read_29 : decode cX4_read 29 = .ok (.lconst 0, 1) := by decide +kernel
theorem dX4_read_30 : decode cX4_read 30 = .ok (.lreturn, 1) := by decide +kernel
theorem dX4_write_0 : decode cX4_write 0 = .ok (.aload_n 0, 1) := by decide +kernel
theorem dX4_write_1 : decode cX4_write 1 = .ok (.iload_n 1, 1) := by decide +kernel
theorem dX4_write_2 : decode cX4_write 2 = .ok (.invokevirtual 27, 3) := by decide +kernel
theorem dX4_write_5 : decode cX4_write 5 = .ok (.ifCond .eq 31, 3) := by decide +kernel
theorem dX4_write_8 : decode cX4_write 8 = .ok (.iload_n 2, 1) := by decide +kernel
theorem dX4_write_9 : decode cX4_write 9 = .ok (.iconst 0, 1) := by decide +kernel
theorem dX4_write_10 : decode cX4_write 10 = .ok (.bipush 59, 2) := by decide +kernel
theorem dX4_write_12 : decode cX4_write 12 = .ok (.invokestatic 23, 3) := by decide +kernel
theorem dX4_write_15 : decode cX4_write 15 = .ok (.ifCond .eq 21, 3) := by decide +kernel
theorem dX4_write_18 : decode cX4_write 18 = .ok (.aload_n 0, 1) := by decide +kernel
theorem dX4_write_19 : decode cX4_write 19 = .ok (.getfield 20, 3) := by decide +kernel
theorem dX4_write_22 : decode cX4_write 22 = .ok (.iload_n 1, 1) := by decide +kernel
theorem dX4_write_23 : decode cX4_write 23 = .ok (.aaload, 1) := by decide +kernel
theorem dX4_write_24 : decode cX4_write 24 = .ok (.iload_n 2, 1) := by decide +kernel
theorem dX4_write_25 : decode cX4_write 25 = .ok (.aload_n 0, 1) := by decide +kernel
theorem dX4_write_26 : decode cX4_write 26 = .ok (.getfield 9, 3) := by decide +kernel
theorem dX4_write_29 : decode cX4_write 29 = .ok (.iload_n 1, 1) := by decide +kernel
theorem dX4_write_30 : decode cX4_write 30 = .ok (.iaload, 1) := by decide +kernel
theorem dX4_write_31 : decode cX4_write 31 = .ok (.lload_n 3, 1) := by decide +kernel
theorem dX4_write_32 : decode cX4_write 32 = .ok (.invokestatic 34, 3) := by decide +kernel
theorem dX4_write_35 : decode cX4_write 35 = .ok (.lastore, 1) := by decide +kernel
theorem dX4_write_36 : decode cX4_write 36 = .ok (.return_, 1) := by decide +kernel
theorem dX4_copy_0 : decode cX4_copy 0 = .ok (.aload_n 0, 1) := by decide +kernel
theorem dX4_copy_1 : decode cX4_copy 1 = .ok (.iload_n 1, 1) := by decide +kernel
theorem dX4_copy_2 : decode cX4_copy 2 = .ok (.iload_n 2, 1) := by decide +kernel
theorem dX4_copy_3 : decode cX4_copy 3 = .ok (.iload 5, 2) := by decide +kernel
theorem dX4_copy_5 : decode cX4_copy 5 = .ok (.invokevirtual 31, 3) := by decide +kernel
theorem dX4_copy_8 : decode cX4_copy 8 = .ok (.ifCond .eq 35, 3) := by decide +kernel
theorem dX4_copy_11 : decode cX4_copy 11 = .ok (.aload_n 0, 1) := by decide +kernel
theorem dX4_copy_12 : decode cX4_copy 12 = .ok (.iload_n 3, 1) := by decide +kernel
theorem dX4_copy_13 : decode cX4_copy 13 = .ok (.iload 4, 2) := by decide +kernel
theorem dX4_copy_15 : decode cX4_copy 15 = .ok (.iload 5, 2) := by decide +kernel
theorem dX4_copy_17 : decode cX4_copy 17 = .ok (.invokevirtual 31, 3) := by decide +kernel
theorem dX4_copy_20 : decode cX4_copy 20 = .ok (.ifCond .eq 23, 3) := by decide +kernel
theorem dX4_copy_23 : decode cX4_copy 23 = .ok (.aload_n 0, 1) := by decide +kernel
theorem dX4_copy_24 : decode cX4_copy 24 = .ok (.getfield 20, 3) := by decide +kernel
theorem dX4_copy_27 : decode cX4_copy 27 = .ok (.iload_n 1, 1) := by decide +kernel
theorem dX4_copy_28 : decode cX4_copy 28 = .ok (.aaload, 1) := by decide +kernel
theorem dX4_copy_29 : decode cX4_copy 29 = .ok (.iload_n 2, 1) := by decide +kernel
theorem dX4_copy_30 : decode cX4_copy 30 = .ok (.aload_n 0, 1) := by decide +kernel
theorem dX4_copy_31 : decode cX4_copy 31 = .ok (.getfield 20, 3) := by decide +kernel
theorem dX4_copy_34 : decode cX4_copy 34 = .ok (.iload_n 3, 1) := by decide +kernel
theorem dX4_copy_35 : decode cX4_copy 35 = .ok (.aaload, 1) := by decide +kernel
theorem dX4_copy_36 : decode cX4_copy 36 = .ok (.iload 4, 2) := by decide +kernel
theorem dX4_copy_38 : decode cX4_copy 38 = .ok (.iload 5, 2) := by decide +kernel
theorem dX4_copy_40 : decode cX4_copy 40 = .ok (.invokestatic 38, 3) := by decide +kernel
theorem dX4_copy_43 : decode cX4_copy 43 = .ok (.return_, 1) := by decide +kernel
theorem dX4_lowest_0 : decode cX4_lowest 0 = .ok (.iload_n 0, 1) := by decide +kernel
theorem dX4_lowest_1 : decode cX4_lowest 1 = .ok (.tableswitch 47 0 3 #[31, 36, 41, 45], 31) := by decide +kernel
theorem dX4_lowest_32 : decode cX4_lowest 32 = .ok (.lload_n 1, 1) := by decide +kernel
theorem dX4_lowest_33 : decode cX4_lowest 33 = .ok (.l2i, 1) := by decide +kernel
theorem dX4_lowest_34 : decode cX4_lowest 34 = .ok (.i2b, 1) := by decide +kernel
theorem dX4_lowest_35 : decode cX4_lowest 35 = .ok (.i2l, 1) := by decide +kernel
theorem dX4_lowest_36 : decode cX4_lowest 36 = .ok (.lreturn, 1) := by decide +kernel
theorem dX4_lowest_37 : decode cX4_lowest 37 = .ok (.lload_n 1, 1) := by decide +kernel
theorem dX4_lowest_38 : decode cX4_lowest 38 = .ok (.l2i, 1) := by decide +kernel
theorem dX4_lowest_39 : decode cX4_lowest 39 = .ok (.i2s, 1) := by decide +kernel
theorem dX4_lowest_40 : decode cX4_lowest 40 = .ok (.i2l, 1) := by decide +kernel
theorem dX4_lowest_41 : decode cX4_lowest 41 = .ok (.lreturn, 1) := by decide +kernel
theorem dX4_lowest_42 : decode cX4_lowest 42 = .ok (.lload_n 1, 1) := by decide +kernel
theorem dX4_lowest_43 : decode cX4_lowest 43 = .ok (.l2i, 1) := by decide +kernel
theorem dX4_lowest_44 : decode cX4_lowest 44 = .ok (.i2l, 1) := by decide +kernel
theorem dX4_lowest_45 : decode cX4_lowest 45 = .ok (.lreturn, 1) := by decide +kernel
theorem dX4_lowest_46 : decode cX4_lowest 46 = .ok (.lload_n 1, 1) := by decide +kernel
theorem dX4_lowest_47 : decode cX4_lowest 47 = .ok (.lreturn, 1) := by decide +kernel
theorem dX4_lowest_48 : decode cX4_lowest 48 = .ok (.lload_n 1, 1) := by decide +kernel
theorem dX4_lowest_49 : decode cX4_lowest 49 = .ok (.lconst 0, 1) := by decide +kernel
theorem dX4_lowest_50 : decode cX4_lowest 50 = .ok (.lcmp, 1) := by decide +kernel
theorem dX4_lowest_51 : decode cX4_lowest 51 = .ok (.ifCond .eq 7, 3) := by decide +kernel
theorem dX4_lowest_54 : decode cX4_lowest 54 = .ok (.lconst 1, 1) := by decide +kernel
theorem dX4_lowest_55 : decode cX4_lowest 55 = .ok (.goto 4, 3) := by decide +kernel
theorem dX4_lowest_58 : decode cX4_lowest 58 = .ok (.lconst 0, 1) := by decide +kernel
theorem dX4_lowest_59 : decode cX4_lowest 59 = .ok (.lreturn, 1) := by decide +kernel
