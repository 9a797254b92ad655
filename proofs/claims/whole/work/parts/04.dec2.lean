theorem dX5_init_0 : decode cX5_init 0 = .ok (.aload_n 0, 1) := by decide +kernel
theorem dX5_init_1 : decode cX5_init 1 = .ok (.invokespecial 3, 3) := by decide +kernel
theorem dX5_init_4 : decode cX5_init 4 = .ok (.aload_n 0, 1) := by decide +kernel
theorem dX5_init_5 : decode cX5_init 5 = .ok (.bipush 9, 2) := by decide +kernel
theorem dX5_init_7 : decode cX5_init 7 = .ok (.bipush 6, 2) := by decide +kernel
theorem dX5_init_9 : decode cX5_init 9 = .ok (.multianewarray 9 2, 4) := by decide +kernel
theorem dX5_init_13 : decode cX5_init 13 = .ok (.putfield 11, 3) := by decide +kernel
theorem dX5_init_16 : decode cX5_init 16 = .ok (.return_, 1) := by decide +kernel
theorem dX5_hasThing_0 : decode cX5_hasThing 0 = .ok (.iload_n 1, 1) := by decide +kernel
theorem dX5_hasThing_1 : decode cX5_hasThing 1 = .ok (.iconst 0, 1) := by decide +kernel
theorem dX5_hasThing_2 : decode cX5_hasThing 2 = .ok (.aload_n 0, 1) := by decide +kernel
theorem dX5_hasThing_3 : decode cX5_hasThing 3 = .ok (.getfield 16, 3) := by decide +kernel
theorem dX5_hasThing_6 : decode cX5_hasThing 6 = .ok (.iconst 1, 1) := by decide +kernel
theorem dX5_hasThing_7 : decode cX5_hasThing 7 = .ok (.isub, 1) := by decide +kernel
theorem dX5_hasThing_8 : decode cX5_hasThing 8 = .ok (.invokestatic 20, 3) := by decide +kernel
theorem dX5_hasThing_11 : decode cX5_hasThing 11 = .ok (.ireturn, 1) := by decide +kernel
theorem dX5_hasSort_0 : decode cX5_hasSort 0 = .ok (.iload_n 1, 1) := by decide +kernel
theorem dX5_hasSort_1 : decode cX5_hasSort 1 = .ok (.iconst 0, 1) := by decide +kernel
theorem dX5_hasSort_2 : decode cX5_hasSort 2 = .ok (.aload_n 0, 1) := by decide +kernel
theorem dX5_hasSort_3 : decode cX5_hasSort 3 = .ok (.getfield 24, 3) := by decide +kernel
theorem dX5_hasSort_6 : decode cX5_hasSort 6 = .ok (.iconst 1, 1) := by decide +kernel
theorem dX5_hasSort_7 : decode cX5_hasSort 7 = .ok (.isub, 1) := by decide +kernel
theorem dX5_hasSort_8 : decode cX5_hasSort 8 = .ok (.invokestatic 20, 3) := by decide +kernel
theorem dX5_hasSort_11 : decode cX5_hasSort 11 = .ok (.ireturn, 1) := by decide +kernel
theorem dX5_at_0 : decode cX5_at 0 = .ok (.iload_n 1, 1) := by decide +kernel
theorem dX5_at_1 : decode cX5_at 1 = .ok (.iconst 0, 1) := by decide +kernel
theorem dX5_at_2 : decode cX5_at 2 = .ok (.bipush 8, 2) := by decide +kernel
theorem dX5_at_4 : decode cX5_at 4 = .ok (.invokestatic 20, 3) := by decide +kernel
theorem dX5_at_7 : decode cX5_at 7 = .ok (.ifCond .eq 12, 3) := by decide +kernel
theorem dX5_at_10 : decode cX5_at 10 = .ok (.iload_n 2, 1) := by decide +kernel
theorem dX5_at_11 : decode cX5_at 11 = .ok (.iconst 0, 1) := by decide +kernel
theorem dX5_at_12 : decode cX5_at 12 = .ok (.iconst 5, 1) := by decide +kernel
theorem dX5_at_13 : decode cX5_at 13 = .ok (.invokestatic 20, 3) := by decide +kernel
theorem dX5_at_16 : decode cX5_at 16 = .ok (.ifCond .ne 5, 3) := by decide +kernel
theorem dX5_at_19 : decode cX5_at 19 = .ok (.iconst 0, 1) := by decide +kernel
theorem dX5_at_20 : decode cX5_at 20 = .ok (.ireturn, 1) := by decide +kernel
theorem dX5_at_21 : decode cX5_at 21 = .ok (.aload_n 0, 1) := by decide +kernel
theorem dX5_at_22 : decode cX5_at 22 = .ok (.getfield 11, 3) := by decide +kernel
theorem dX5_at_25 : decode cX5_at 25 = .ok (.iload_n 1, 1) := by decide +kernel
theorem dX5_at_26 : decode cX5_at 26 = .ok (.aaload, 1) := by decide +kernel
theorem dX5_at_27 : decode cX5_at 27 = .ok (.iload_n 2, 1) := by decide +kernel
theorem dX5_at_28 : decode cX5_at 28 = .ok (.iaload, 1) := by decide +kernel
theorem dX5_at_29 : decode cX5_at 29 = .ok (.ireturn, 1) := by decide +kernel
theorem dX5_write_0 : decode cX5_write 0 = .ok (.iload_n 1, 1) := by decide +kernel
theorem dX5_write_1 : decode cX5_write 1 = .ok (.iconst 0, 1) := by decide +kernel
theorem dX5_write_2 : decode cX5_write 2 = .ok (.bipush 8, 2) := by decide +kernel
theorem dX5_write_4 : decode cX5_write 4 = .ok (.invokestatic 20, 3) := by decide +kernel
theorem dX5_write_7 : decode cX5_write 7 = .ok (.ifCond .eq 21, 3) := by decide +kernel
theorem dX5_write_10 : decode cX5_write 10 = .ok (.iload_n 2, 1) := by decide +kernel
theorem dX5_write_11 : decode cX5_write 11 = .ok (.iconst 0, 1) := by decide +kernel
theorem dX5_write_12 : decode cX5_write 12 = .ok (.iconst 5, 1) := by decide +kernel
theorem dX5_write_13 : decode cX5_write 13 = .ok (.invokestatic 20, 3) := by decide +kernel
theorem dX5_write_16 : decode cX5_write 16 = .ok (.ifCond .eq 12, 3) := by decide +kernel
theorem dX5_write_19 : decode cX5_write 19 = .ok (.aload_n 0, 1) := by decide +kernel
theorem dX5_write_20 : decode cX5_write 20 = .ok (.getfield 11, 3) := by decide +kernel
theorem dX5_write_23 : decode cX5_write 23 = .ok (.iload_n 1, 1) := by decide +kernel
theorem dX5_write_24 : decode cX5_write 24 = .ok (.aaload, 1) := by decide +kernel
theorem dX5_write_25 : decode cX5_write 25 = .ok (.iload_n 2, 1) := by decide +kernel
theorem dX5_write_26 : decode cX5_write 26 = .ok (.iload_n 3, 1) := by decide +kernel
theorem dX5_write_27 : decode cX5_write 27 = .ok (.iastore, 1) := by decide +kernel
theorem dX5_write_28 : decode cX5_write 28 = .ok (.return_, 1) := by decide +kernel
theorem dX5_addThing_0 : decode cX5_addThing 0 = .ok (.aload_n 0, 1) := by decide +kernel
theorem dX5_addThing_1 : decode cX5_addThing 1 = .ok (.getfield 16, 3) := by decide +kernel
theorem dX5_addThing_4 : decode cX5_addThing 4 = .ok (.bipush 6, 2) := by decide +kernel
theorem dX5_addThing_6 : decode cX5_addThing 6 = .ok (.if_icmp .lt 6, 3) := by decide +kernel
theorem dX5_addThing_9 : decode cX5_addThing 9 = .ok (.bipush (-3), 2) := by decide +kernel
theorem dX5_addThing_11 : decode cX5_addThing 11 = .ok (.ireturn, 1) := by decide +kernel
theorem dX5_addThing_12 : decode cX5_addThing 12 = .ok (.aload_n 0, 1) := by decide +kernel
theorem dX5_addThing_13 : decode cX5_addThing 13 = .ok (.iconst 0, 1) := by decide +kernel
theorem dX5_addThing_14 : decode cX5_addThing 14 = .ok (.aload_n 0, 1) := by decide +kernel
theorem dX5_addThing_15 : decode cX5_addThing 15 = .ok (.getfield 16, 3) := by decide +kernel
theorem dX5_addThing_18 : decode cX5_addThing 18 = .ok (.iload_n 1, 1) := by decide +kernel
theorem dX5_addThing_19 : decode cX5_addThing 19 = .ok (.invokevirtual 27, 3) := by decide +kernel
theorem dX5_addThing_22 : decode cX5_addThing 22 = .ok (.aload_n 0, 1) := by decide +kernel
theorem dX5_addThing_23 : decode cX5_addThing 23 = .ok (.iconst 1, 1) := by decide +kernel
theorem dX5_addThing_24 : decode cX5_addThing 24 = .ok (.aload_n 0, 1) := by decide +kernel
theorem dX5_addThing_25 : decode cX5_addThing 25 = .ok (.getfield 16, 3) := by decide +kernel
theorem dX5_addThing_28 : decode cX5_addThing 28 = .ok (.iload_n 2, 1) := by decide +kernel
theorem dX5_addThing_29 : decode cX5_addThing 29 = .ok (.invokevirtual 27, 3) := by decide +kernel
theorem dX5_addThing_32 : decode cX5_addThing 32 = .ok (.aload_n 0, 1) := by decide +kernel
theorem dX5_addThing_33 : decode cX5_addThing 33 = .ok (.iconst 2, 1) := by decide +kernel
theorem dX5_addThing_34 : decode cX5_addThing 34 = .ok (.aload_n 0, 1) := by decide +kernel
theorem dX5_addThing_35 : decode cX5_addThing 35 = .ok (.getfield 16, 3) := by decide +kernel
theorem dX5_addThing_38 : decode cX5_addThing 38 = .ok (.iload_n 3, 1) := by decide +kernel
theorem dX5_addThing_39 : decode cX5_addThing 39 = .ok (.invokevirtual 27, 3) := by decide +kernel
theorem dX5_addThing_42 : decode cX5_addThing 42 = .ok (.aload_n 0, 1) := by decide +kernel
theorem dX5_addThing_43 : decode cX5_addThing 43 = .ok (.iconst 3, 1) := by decide +kernel
theorem dX5_addThing_44 : decode cX5_addThing 44 = .ok (.aload_n 0, 1) := by decide +kernel
theorem dX5_addThing_45 : decode cX5_addThing 45 = .ok (.getfield 16, 3) := by decide +kernel
theorem dX5_addThing_48 : decode cX5_addThing 48 = .ok (.iload 4, 2) := by decide +kernel
theorem dX5_addThing_50 : decode cX5_addThing 50 = .ok (.invokevirtual 27, 3) := by decide +kernel
theorem dX5_addThing_53 : decode cX5_addThing 53 = .ok (.aload_n 0, 1) := by decide +kernel
theorem dX5_addThing_54 : decode cX5_addThing 54 = .ok (.dup, 1) := by decide +kernel
theorem dX5_addThing_55 : decode cX5_addThing 55 = .ok (.getfield 16, 3) := by decide +kernel
theorem dX5_addThing_58 : decode cX5_addThing 58 = .ok (.dup_x1, 1) := by decide +kernel
theorem dX5_addThing_59 : decode cX5_addThing 59 = .ok (.iconst 1, 1) := by decide +kernel
theorem dX5_addThing_60 : decode cX5_addThing 60 = .ok (.iadd, 1) := by decide +kernel
theorem dX5_addThing_61 : decode cX5_addThing 61 = .ok (.putfield 16, 3) := by decide +kernel
theorem dX5_addThing_64 : decode cX5_addThing 64 = .ok (.ireturn, 1) := by decide +kernel
theorem dX5_addSort_0 : decode cX5_addSort 0 = .ok (.aload_n 0, 1) := by decide +kernel
theorem dX5_addSort_1 : decode cX5_addSort 1 = .ok (.getfield 24, 3) := by decide +kernel
theorem dX5_addSort_4 : decode cX5_addSort 4 = .ok (.iconst 5, 1) := by decide +kernel
theorem dX5_addSort_5 : decode cX5_addSort 5 = .ok (.if_icmp .lt 6, 3) := by decide +kernel
theorem dX5_addSort_8 : decode cX5_addSort 8 = .ok (.bipush (-3), 2) := by decide +kernel
theorem dX5_addSort_10 : decode cX5_addSort 10 = .ok (.ireturn, 1) := by decide +kernel
theorem dX5_addSort_11 : decode cX5_addSort 11 = .ok (.aload_n 0, 1) := by decide +kernel
theorem dX5_addSort_12 : decode cX5_addSort 12 = .ok (.iconst 4, 1) := by decide +kernel
theorem dX5_addSort_13 : decode cX5_addSort 13 = .ok (.aload_n 0, 1) := by decide +kernel
theorem dX5_addSort_14 : decode cX5_addSort 14 = .ok (.getfield 24, 3) := by decide +kernel
theorem dX5_addSort_17 : decode cX5_addSort 17 = .ok (.iload_n 1, 1) := by decide +kernel
theorem dX5_addSort_18 : decode cX5_addSort 18 = .ok (.invokevirtual 27, 3) := by decide +kernel
theorem dX5_addSort_21 : decode cX5_addSort 21 = .ok (.aload_n 0, 1) := by decide +kernel
theorem dX5_addSort_22 : decode cX5_addSort 22 = .ok (.iconst 5, 1) := by decide +kernel
theorem dX5_addSort_23 : decode cX5_addSort 23 = .ok (.aload_n 0, 1) := by decide +kernel
theorem dX5_addSort_24 : decode cX5_addSort 24 = .ok (.getfield 24, 3) := by decide +kernel
theorem dX5_addSort_27 : decode cX5_addSort 27 = .ok (.iload_n 2, 1) := by decide +kernel
theorem dX5_addSort_28 : decode cX5_addSort 28 = .ok (.bipush 100, 2) := by decide +kernel
theorem dX5_addSort_30 : decode cX5_addSort 30 = .ok (.idiv, 1) := by decide +kernel
theorem dX5_addSort_31 : decode cX5_addSort 31 = .ok (.invokevirtual 27, 3) := by decide +kernel
theorem dX5_addSort_34 : decode cX5_addSort 34 = .ok (.aload_n 0, 1) := by decide +kernel
theorem dX5_addSort_35 : decode cX5_addSort 35 = .ok (.bipush 6, 2) := by decide +kernel
theorem dX5_addSort_37 : decode cX5_addSort 37 = .ok (.aload_n 0, 1) := by decide +kernel
theorem dX5_addSort_38 : decode cX5_addSort 38 = .ok (.getfield 24, 3) := by decide +kernel
theorem dX5_addSort_41 : decode cX5_addSort 41 = .ok (.iload_n 2, 1) := by decide +kernel
theorem dX5_addSort_42 : decode cX5_addSort 42 = .ok (.bipush 100, 2) := by decide +kernel
theorem dX5_addSort_44 : decode cX5_addSort 44 = .ok (.irem, 1) := by decide +kernel
theorem dX5_addSort_45 : decode cX5_addSort 45 = .ok (.invokevirtual 27, 3) := by decide +kernel
theorem dX5_addSort_48 : decode cX5_addSort 48 = .ok (.aload_n 0, 1) := by decide +kernel
theorem dX5_addSort_49 : decode cX5_addSort 49 = .ok (.bipush 7, 2) := by decide +kernel
theorem dX5_addSort_51 : decode cX5_addSort 51 = .ok (.aload_n 0, 1) := by decide +kernel
theorem dX5_addSort_52 : decode cX5_addSort 52 = .ok (.getfield 24, 3) := by decide +kernel
theorem dX5_addSort_55 : decode cX5_addSort 55 = .ok (.iload_n 3, 1) := by decide +kernel
theorem dX5_addSort_56 : decode cX5_addSort 56 = .ok (.bipush 10, 2) := by decide +kernel
theorem dX5_addSort_58 : decode cX5_addSort 58 = .ok (.idiv, 1) := by decide +kernel
theorem dX5_addSort_59 : decode cX5_addSort 59 = .ok (.invokevirtual 27, 3) := by decide +kernel
theorem dX5_addSort_62 : decode cX5_addSort 62 = .ok (.aload_n 0, 1) := by decide +kernel
theorem dX5_addSort_63 : decode cX5_addSort 63 = .ok (.bipush 8, 2) := by decide +kernel
theorem dX5_addSort_65 : decode cX5_addSort 65 = .ok (.aload_n 0, 1) := by decide +kernel
theorem dX5_addSort_66 : decode cX5_addSort 66 = .ok (.getfield 24, 3) := by decide +kernel
theorem dX5_addSort_69 : decode cX5_addSort 69 = .ok (.iload_n 3, 1) := by decide +kernel
theorem dX5_addSort_70 : decode cX5_addSort 70 = .ok (.bipush 10, 2) := by decide +kernel
theorem dX5_addSort_72 : decode cX5_addSort 72 = .ok (.irem, 1) := by decide +kernel
theorem dX5_addSort_73 : decode cX5_addSort 73 = .ok (.invokevirtual 27, 3) := by decide +kernel
theorem dX5_addSort_76 : decode cX5_addSort 76 = .ok (.aload_n 0, 1) := by decide +kernel
theorem dX5_addSort_77 : decode cX5_addSort 77 = .ok (.dup, 1) := by decide +kernel
theorem dX5_addSort_78 : decode cX5_addSort 78 = .ok (.getfield 24, 3) := by decide +kernel
theorem dX5_addSort_81 : decode cX5_addSort 81 = .ok (.dup_x1, 1) := by decide +kernel
theorem dX5_addSort_82 : decode cX5_addSort 82 = .ok (.iconst 1, 1) := by decide +kernel
theorem dX5_addSort_83 : decode cX5_addSort 83 = .ok (.iadd, 1) := by decide +kernel
theorem dX5_addSort_84 : decode cX5_addSort 84 = .ok (.putfield 24, 3) := by decide +kernel
theorem dX5_addSort_87 : decode cX5_addSort 87 = .ok (.ireturn, 1) := by decide +kernel
theorem dX5_pointsInAll_0 : decode cX5_pointsInAll 0 = .ok (.aload_n 0, 1) := by decide +kernel
theorem dX5_pointsInAll_1 : decode cX5_pointsInAll 1 = .ok (.bipush 6, 2) := by decide +kernel
theorem dX5_pointsInAll_3 : decode cX5_pointsInAll 3 = .ok (.iload_n 1, 1) := by decide +kernel
theorem dX5_pointsInAll_4 : decode cX5_pointsInAll 4 = .ok (.invokevirtual 31, 3) := by decide +kernel
theorem dX5_pointsInAll_7 : decode cX5_pointsInAll 7 = .ok (.bipush 10, 2) := by decide +kernel
theorem dX5_pointsInAll_9 : decode cX5_pointsInAll 9 = .ok (.aload_n 0, 1) := by decide +kernel
theorem dX5_pointsInAll_10 : decode cX5_pointsInAll 10 = .ok (.bipush 7, 2) := by decide +kernel
theorem dX5_pointsInAll_12 : decode cX5_pointsInAll 12 = .ok (.iload_n 1, 1) := by decide +kernel
theorem dX5_pointsInAll_13 : decode cX5_pointsInAll 13 = .ok (.invokevirtual 31, 3) := by decide +kernel
theorem dX5_pointsInAll_16 : decode cX5_pointsInAll 16 = .ok (.imul, 1) := by decide +kernel
theorem dX5_pointsInAll_17 : decode cX5_pointsInAll 17 = .ok (.iadd, 1) := by decide +kernel
theorem dX5_pointsInAll_18 : decode cX5_pointsInAll 18 = .ok (.ireturn, 1) := by decide +kernel
theorem dX5_allHeads_0 : decode cX5_allHeads 0 = .ok (.iconst 0, 1) := by decide +kernel
theorem dX5_allHeads_1 : decode cX5_allHeads 1 = .ok (.istore_n 1, 1) := by decide +kernel
theorem dX5_allHeads_2 : decode cX5_allHeads 2 = .ok (.iconst 0, 1) := by decide +kernel
theorem dX5_allHeads_3 : decode cX5_allHeads 3 = .ok (.istore_n 2, 1) := by decide +kernel
theorem dX5_allHeads_4 : decode cX5_allHeads 4 = .ok (.iload_n 2, 1) := by decide +kernel
theorem dX5_allHeads_5 : decode cX5_allHeads 5 = .ok (.aload_n 0, 1) := by decide +kernel
theorem dX5_allHeads_6 : decode cX5_allHeads 6 = .ok (.getfield 24, 3) := by decide +kernel
theorem dX5_allHeads_9 : decode cX5_allHeads 9 = .ok (.if_icmp .ge 18, 3) := by decide +kernel
theorem dX5_allHeads_12 : decode cX5_allHeads 12 = .ok (.iload_n 1, 1) := by decide +kernel
theorem dX5_allHeads_13 : decode cX5_allHeads 13 = .ok (.aload_n 0, 1) := by decide +kernel
theorem dX5_allHeads_14 : decode cX5_allHeads 14 = .ok (.iconst 4, 1) := by decide +kernel
theorem dX5_allHeads_15 : decode cX5_allHeads 15 = .ok (.iload_n 2, 1) := by decide +kernel
theorem dX5_allHeads_16 : decode cX5_allHeads 16 = .ok (.invokevirtual 31, 3) := by decide +kernel
theorem dX5_allHeads_19 : decode cX5_allHeads 19 = .ok (.iadd, 1) := by decide +kernel
theorem dX5_allHeads_20 : decode cX5_allHeads 20 = .ok (.istore_n 1, 1) := by decide +kernel
theorem dX5_allHeads_21 : decode cX5_allHeads 21 = .ok (.iinc 2 1, 3) := by decide +kernel
theorem dX5_allHeads_24 : decode cX5_allHeads 24 = .ok (.goto (-20), 3) := by decide +kernel
theorem dX5_allHeads_27 : decode cX5_allHeads 27 = .ok (.iload_n 1, 1) := by decide +kernel
theorem dX5_allHeads_28 : decode cX5_allHeads 28 = .ok (.ireturn, 1) := by decide +kernel
theorem dX5_digitOf_0 : decode cX5_digitOf 0 = .ok (.iload_n 1, 1) := by decide +kernel
theorem dX5_digitOf_1 : decode cX5_digitOf 1 = .ok (.istore_n 3, 1) := by decide +kernel
theorem dX5_digitOf_2 : decode cX5_digitOf 2 = .ok (.aload_n 0, 1) := by decide +kernel
theorem dX5_digitOf_3 : decode cX5_digitOf 3 = .ok (.getfield 16, 3) := by decide +kernel
theorem dX5_digitOf_6 : decode cX5_digitOf 6 = .ok (.iconst 1, 1) := by decide +kernel
theorem dX5_digitOf_7 : decode cX5_digitOf 7 = .ok (.isub, 1) := by decide +kernel
theorem dX5_digitOf_8 : decode cX5_digitOf 8 = .ok (.istore 4, 2) := by decide +kernel
theorem dX5_digitOf_10 : decode cX5_digitOf 10 = .ok (.iload 4, 2) := by decide +kernel
theorem dX5_digitOf_12 : decode cX5_digitOf 12 = .ok (.iload_n 2, 1) := by decide +kernel
theorem dX5_digitOf_13 : decode cX5_digitOf 13 = .ok (.if_icmp .le 14, 3) := by decide +kernel
theorem dX5_digitOf_16 : decode cX5_digitOf 16 = .ok (.iload_n 3, 1) := by decide +kernel
theorem dX5_digitOf_17 : decode cX5_digitOf 17 = .ok (.bipush 10, 2) := by decide +kernel
theorem dX5_digitOf_19 : decode cX5_digitOf 19 = .ok (.idiv, 1) := by decide +kernel
theorem dX5_digitOf_20 : decode cX5_digitOf 20 = .ok (.istore_n 3, 1) := by decide +kernel
theorem dX5_digitOf_21 : decode cX5_digitOf 21 = .ok (.iinc 4 (-1), 3) := by decide +kernel
theorem dX5_digitOf_24 : decode cX5_digitOf 24 = .ok (.goto (-14), 3) := by decide +kernel
theorem dX5_digitOf_27 : decode cX5_digitOf 27 = .ok (.iload_n 3, 1) := by decide +kernel
theorem dX5_digitOf_28 : decode cX5_digitOf 28 = .ok (.bipush 10, 2) := by decide +kernel
theorem dX5_digitOf_30 : decode cX5_digitOf 30 = .ok (.irem, 1) := by decide +kernel
theorem dX5_digitOf_31 : decode cX5_digitOf 31 = .ok (.ireturn, 1) := by decide +kernel
theorem dX5_isBasket_0 : decode cX5_isBasket 0 = .ok (.iload_n 1, 1) := by decide +kernel
theorem dX5_isBasket_1 : decode cX5_isBasket 1 = .ok (.istore_n 2, 1) := by decide +kernel
theorem dX5_isBasket_2 : decode cX5_isBasket 2 = .ok (.iconst 0, 1) := by decide +kernel
theorem dX5_isBasket_3 : decode cX5_isBasket 3 = .ok (.istore_n 3, 1) := by decide +kernel
theorem dX5_isBasket_4 : decode cX5_isBasket 4 = .ok (.iload_n 3, 1) := by decide +kernel
theorem dX5_isBasket_5 : decode cX5_isBasket 5 = .ok (.aload_n 0, 1) := by decide +kernel
theorem dX5_isBasket_6 : decode cX5_isBasket 6 = .ok (.getfield 16, 3) := by decide +kernel
theorem dX5_isBasket_9 : decode cX5_isBasket 9 = .ok (.if_icmp .ge 24, 3) := by decide +kernel
theorem dX5_isBasket_12 : decode cX5_isBasket 12 = .ok (.iload_n 2, 1) := by decide +kernel
theorem dX5_isBasket_13 : decode cX5_isBasket 13 = .ok (.bipush 10, 2) := by decide +kernel
theorem dX5_isBasket_15 : decode cX5_isBasket 15 = .ok (.irem, 1) := by decide +kernel
theorem dX5_isBasket_16 : decode cX5_isBasket 16 = .ok (.iconst 3, 1) := by decide +kernel
theorem dX5_isBasket_17 : decode cX5_isBasket 17 = .ok (.if_icmp .le 5, 3) := by decide +kernel
theorem dX5_isBasket_20 : decode cX5_isBasket 20 = .ok (.iconst 0, 1) := by decide +kernel
theorem dX5_isBasket_21 : decode cX5_isBasket 21 = .ok (.ireturn, 1) := by decide +kernel
theorem dX5_isBasket_22 : decode cX5_isBasket 22 = .ok (.iload_n 2, 1) := by decide +kernel
theorem dX5_isBasket_23 : decode cX5_isBasket 23 = .ok (.bipush 10, 2) := by decide +kernel
theorem dX5_isBasket_25 : decode cX5_isBasket 25 = .ok (.idiv, 1) := by decide +kernel
theorem dX5_isBasket_26 : decode cX5_isBasket 26 = .ok (.istore_n 2, 1) := by decide +kernel
theorem dX5_isBasket_27 : decode cX5_isBasket 27 = .ok (.iinc 3 1, 3) := by decide +kernel
theorem dX5_isBasket_30 : decode cX5_isBasket 30 = .ok (.goto (-26), 3) := by decide +kernel
theorem dX5_isBasket_33 : decode cX5_isBasket 33 = .ok (.iload_n 1, 1) := by decide +kernel
theorem dX5_isBasket_34 : decode cX5_isBasket 34 = .ok (.ifCond .lt 11, 3) := by decide +kernel
theorem dX5_isBasket_37 : decode cX5_isBasket 37 = .ok (.iload_n 2, 1) := by decide +kernel
theorem dX5_isBasket_38 : decode cX5_isBasket 38 = .ok (.ifCond .ne 7, 3) := by decide +kernel
theorem dX5_isBasket_41 : decode cX5_isBasket 41 = .ok (.iconst 1, 1) := by decide +kernel
theorem dX5_isBasket_42 : decode cX5_isBasket 42 = .ok (.goto 4, 3) := by decide +kernel
theorem dX5_isBasket_45 : decode cX5_isBasket 45 = .ok (.iconst 0, 1) := by decide +kernel
theorem dX5_isBasket_46 : decode cX5_isBasket 46 = .ok (.ireturn, 1) := by decide +kernel
theorem dX6_init_0 : decode cX6_init 0 = .ok (.aload_n 0, 1) := by decide +kernel
theorem dX6_init_1 : decode cX6_init 1 = .ok (.invokespecial 3, 3) := by decide +kernel
theorem dX6_init_4 : decode cX6_init 4 = .ok (.aload_n 0, 1) := by decide +kernel
theorem dX6_init_5 : decode cX6_init 5 = .ok (.bipush 120, 2) := by decide +kernel
theorem dX6_init_7 : decode cX6_init 7 = .ok (.newarray .int, 2) := by decide +kernel
theorem dX6_init_9 : decode cX6_init 9 = .ok (.putfield 9, 3) := by decide +kernel
theorem dX6_init_12 : decode cX6_init 12 = .ok (.aload_n 0, 1) := by decide +kernel
theorem dX6_init_13 : decode cX6_init 13 = .ok (.bipush 121, 2) := by decide +kernel
theorem dX6_init_15 : decode cX6_init 15 = .ok (.newarray .int, 2) := by decide +kernel
theorem dX6_init_17 : decode cX6_init 17 = .ok (.putfield 15, 3) := by decide +kernel
theorem dX6_init_20 : decode cX6_init 20 = .ok (.return_, 1) := by decide +kernel
theorem dX6_take_0 : decode cX6_take 0 = .ok (.aload_n 0, 1) := by decide +kernel
theorem dX6_take_1 : decode cX6_take 1 = .ok (.getfield 18, 3) := by decide +kernel
theorem dX6_take_4 : decode cX6_take 4 = .ok (.iload_n 1, 1) := by decide +kernel
theorem dX6_take_5 : decode cX6_take 5 = .ok (.iadd, 1) := by decide +kernel
theorem dX6_take_6 : decode cX6_take 6 = .ok (.bipush 120, 2) := by decide +kernel
theorem dX6_take_8 : decode cX6_take 8 = .ok (.if_icmp .le 6, 3) := by decide +kernel
theorem dX6_take_11 : decode cX6_take 11 = .ok (.bipush (-3), 2) := by decide +kernel
theorem dX6_take_13 : decode cX6_take 13 = .ok (.ireturn, 1) := by decide +kernel
theorem dX6_take_14 : decode cX6_take 14 = .ok (.iconst 0, 1) := by decide +kernel
theorem dX6_take_15 : decode cX6_take 15 = .ok (.istore_n 3, 1) := by decide +kernel
theorem dX6_take_16 : decode cX6_take 16 = .ok (.iload_n 3, 1) := by decide +kernel
theorem dX6_take_17 : decode cX6_take 17 = .ok (.iload_n 1, 1) := by decide +kernel
theorem dX6_take_18 : decode cX6_take 18 = .ok (.if_icmp .ge 47, 3) := by decide +kernel
theorem dX6_take_21 : decode cX6_take 21 = .ok (.aload_n 0, 1) := by decide +kernel
theorem dX6_take_22 : decode cX6_take 22 = .ok (.getfield 18, 3) := by decide +kernel
theorem dX6_take_25 : decode cX6_take 25 = .ok (.bipush 120, 2) := by decide +kernel
theorem dX6_take_27 : decode cX6_take 27 = .ok (.if_icmp .ge 38, 3) := by decide +kernel
theorem dX6_take_30 : decode cX6_take 30 = .ok (.aload_n 0, 1) := by decide +kernel
theorem dX6_take_31 : decode cX6_take 31 = .ok (.getfield 9, 3) := by decide +kernel
theorem dX6_take_34 : decode cX6_take 34 = .ok (.aload_n 0, 1) := by decide +kernel
theorem dX6_take_35 : decode cX6_take 35 = .ok (.getfield 18, 3) := by decide +kernel
theorem dX6_take_38 : decode cX6_take 38 = .ok (.iload_n 2, 1) := by decide +kernel
theorem dX6_take_39 : decode cX6_take 39 = .ok (.bipush 8, 2) := by decide +kernel
theorem dX6_take_41 : decode cX6_take 41 = .ok (.iload_n 3, 1) := by decide +kernel
theorem dX6_take_42 : decode cX6_take 42 = .ok (.imul, 1) := by decide +kernel
theorem dX6_take_43 : decode cX6_take 43 = .ok (.ishr, 1) := by decide +kernel
theorem dX6_take_44 : decode cX6_take 44 = .ok (.sipush 255, 3) := by decide +kernel
theorem dX6_take_47 : decode cX6_take 47 = .ok (.iand, 1) := by decide +kernel
theorem dX6_take_48 : decode cX6_take 48 = .ok (.iastore, 1) := by decide +kernel
theorem dX6_take_49 : decode cX6_take 49 = .ok (.aload_n 0, 1) := by decide +kernel
theorem dX6_take_50 : decode cX6_take 50 = .ok (.dup, 1) := by decide +kernel
theorem dX6_take_51 : decode cX6_take 51 = .ok (.getfield 18, 3) := by decide +kernel
theorem dX6_take_54 : decode cX6_take 54 = .ok (.iconst 1, 1) := by decide +kernel
theorem dX6_take_55 : decode cX6_take 55 = .ok (.iadd, 1) := by decide +kernel
theorem dX6_take_56 : decode cX6_take 56 = .ok (.putfield 18, 3) := by decide +kernel
theorem dX6_take_59 : decode cX6_take 59 = .ok (.iinc 3 1, 3) := by decide +kernel
theorem dX6_take_62 : decode cX6_take 62 = .ok (.goto (-46), 3) := by decide +kernel
theorem dX6_take_65 : decode cX6_take 65 = .ok (.aload_n 0, 1) := by decide +kernel
theorem dX6_take_66 : decode cX6_take 66 = .ok (.getfield 18, 3) := by decide +kernel
theorem dX6_take_69 : decode cX6_take 69 = .ok (.ireturn, 1) := by decide +kernel
theorem dX6_empty_0 : decode cX6_empty 0 = .ok (.aload_n 0, 1) := by decide +kernel
theorem dX6_empty_1 : decode cX6_empty 1 = .ok (.iconst 0, 1) := by decide +kernel
theorem dX6_empty_2 : decode cX6_empty 2 = .ok (.putfield 18, 3) := by decide +kernel
theorem dX6_empty_5 : decode cX6_empty 5 = .ok (.return_, 1) := by decide +kernel
theorem dX6_place_0 : decode cX6_place 0 = .ok (.aload_n 0, 1) := by decide +kernel
theorem dX6_place_1 : decode cX6_place 1 = .ok (.getfield 22, 3) := by decide +kernel
theorem dX6_place_4 : decode cX6_place 4 = .ok (.ireturn, 1) := by decide +kernel
theorem dX6_size_0 : decode cX6_size 0 = .ok (.aload_n 0, 1) := by decide +kernel
theorem dX6_size_1 : decode cX6_size 1 = .ok (.getfield 25, 3) := by decide +kernel
theorem dX6_size_4 : decode cX6_size 4 = .ok (.ireturn, 1) := by decide +kernel
theorem dX6_stepAt_0 : decode cX6_stepAt 0 = .ok (.iload_n 1, 1) := by decide +kernel
theorem dX6_stepAt_1 : decode cX6_stepAt 1 = .ok (.iconst 0, 1) := by decide +kernel
theorem dX6_stepAt_2 : decode cX6_stepAt 2 = .ok (.bipush 120, 2) := by decide +kernel
theorem dX6_stepAt_4 : decode cX6_stepAt 4 = .ok (.invokestatic 28, 3) := by decide +kernel
theorem dX6_stepAt_7 : decode cX6_stepAt 7 = .ok (.ifCond .eq 12, 3) := by decide +kernel
theorem dX6_stepAt_10 : decode cX6_stepAt 10 = .ok (.aload_n 0, 1) := by decide +kernel
theorem dX6_stepAt_11 : decode cX6_stepAt 11 = .ok (.getfield 15, 3) := by decide +kernel
theorem dX6_stepAt_14 : decode cX6_stepAt 14 = .ok (.iload_n 1, 1) := by decide +kernel
theorem dX6_stepAt_15 : decode cX6_stepAt 15 = .ok (.iaload, 1) := by decide +kernel
theorem dX6_stepAt_16 : decode cX6_stepAt 16 = .ok (.goto 4, 3) := by decide +kernel
theorem dX6_stepAt_19 : decode cX6_stepAt 19 = .ok (.iconst 0, 1) := by decide +kernel
theorem dX6_stepAt_20 : decode cX6_stepAt 20 = .ok (.ireturn, 1) := by decide +kernel
theorem dX6_reads_0 : decode cX6_reads 0 = .ok (.aload_n 0, 1) := by decide +kernel
theorem dX6_reads_1 : decode cX6_reads 1 = .ok (.iconst 0, 1) := by decide +kernel
theorem dX6_reads_2 : decode cX6_reads 2 = .ok (.putfield 22, 3) := by decide +kernel
theorem dX6_reads_5 : decode cX6_reads 5 = .ok (.aload_n 0, 1) := by decide +kernel
theorem dX6_reads_6 : decode cX6_reads 6 = .ok (.iconst 0, 1) := by decide +kernel
theorem dX6_reads_7 : decode cX6_reads 7 = .ok (.putfield 25, 3) := by decide +kernel
theorem dX6_reads_10 : decode cX6_reads 10 = .ok (.aload_n 0, 1) := by decide +kernel
theorem dX6_reads_11 : decode cX6_reads 11 = .ok (.invokevirtual 32, 3) := by decide +kernel
theorem dX6_reads_14 : decode cX6_reads 14 = .ok (.istore_n 1, 1) := by decide +kernel
theorem dX6_reads_15 : decode cX6_reads 15 = .ok (.iconst 0, 1) := by decide +kernel
theorem dX6_reads_16 : decode cX6_reads 16 = .ok (.istore_n 2, 1) := by decide +kernel
theorem dX6_reads_17 : decode cX6_reads 17 = .ok (.iload_n 1, 1) := by decide +kernel
theorem dX6_reads_18 : decode cX6_reads 18 = .ok (.ifCond .eq 39, 3) := by decide +kernel
theorem dX6_reads_21 : decode cX6_reads 21 = .ok (.iload_n 2, 1) := by decide +kernel
theorem dX6_reads_22 : decode cX6_reads 22 = .ok (.bipush 120, 2) := by decide +kernel
theorem dX6_reads_24 : decode cX6_reads 24 = .ok (.if_icmp .ge 33, 3) := by decide +kernel
theorem dX6_reads_27 : decode cX6_reads 27 = .ok (.aload_n 0, 1) := by decide +kernel
theorem dX6_reads_28 : decode cX6_reads 28 = .ok (.invokevirtual 36, 3) := by decide +kernel
theorem dX6_reads_31 : decode cX6_reads 31 = .ok (.bipush 59, 2) := by decide +kernel
theorem dX6_reads_33 : decode cX6_reads 33 = .ok (.if_icmp .ne 24, 3) := by decide +kernel
theorem dX6_reads_36 : decode cX6_reads 36 = .ok (.aload_n 0, 1) := by decide +kernel
theorem dX6_reads_37 : decode cX6_reads 37 = .ok (.dup, 1) := by decide +kernel
theorem dX6_reads_38 : decode cX6_reads 38 = .ok (.getfield 22, 3) := by decide +kernel
theorem dX6_reads_41 : decode cX6_reads 41 = .ok (.iconst 1, 1) := by decide +kernel
theorem dX6_reads_42 : decode cX6_reads 42 = .ok (.iadd, 1) := by decide +kernel
theorem dX6_reads_43 : decode cX6_reads 43 = .ok (.putfield 22, 3) := by decide +kernel
theorem dX6_reads_46 : decode cX6_reads 46 = .ok (.aload_n 0, 1) := by decide +kernel
theorem dX6_reads_47 : decode cX6_reads 47 = .ok (.invokevirtual 32, 3) := by decide +kernel
theorem dX6_reads_50 : decode cX6_reads 50 = .ok (.istore_n 1, 1) := by decide +kernel
theorem dX6_reads_51 : decode cX6_reads 51 = .ok (.iinc 2 1, 3) := by decide +kernel
theorem dX6_reads_54 : decode cX6_reads 54 = .ok (.goto (-37), 3) := by decide +kernel
theorem dX6_reads_57 : decode cX6_reads 57 = .ok (.iload_n 1, 1) := by decide +kernel
theorem dX6_reads_58 : decode cX6_reads 58 = .ok (.ifCond .eq 18, 3) := by decide +kernel
theorem dX6_reads_61 : decode cX6_reads 61 = .ok (.aload_n 0, 1) := by decide +kernel
theorem dX6_reads_62 : decode cX6_reads 62 = .ok (.getfield 22, 3) := by decide +kernel
theorem dX6_reads_65 : decode cX6_reads 65 = .ok (.aload_n 0, 1) := by decide +kernel
theorem dX6_reads_66 : decode cX6_reads 66 = .ok (.getfield 18, 3) := by decide +kernel
theorem dX6_reads_69 : decode cX6_reads 69 = .ok (.if_icmp .ne 7, 3) := by decide +kernel
theorem dX6_reads_72 : decode cX6_reads 72 = .ok (.iconst 1, 1) := by decide +kernel
theorem dX6_reads_73 : decode cX6_reads 73 = .ok (.goto 4, 3) := by decide +kernel
theorem dX6_reads_76 : decode cX6_reads 76 = .ok (.iconst 0, 1) := by decide +kernel
theorem dX6_reads_77 : decode cX6_reads 77 = .ok (.ireturn, 1) := by decide +kernel
theorem dX6_readLine_0 : decode cX6_readLine 0 = .ok (.aload_n 0, 1) := by decide +kernel
theorem dX6_readLine_1 : decode cX6_readLine 1 = .ok (.iconst 0, 1) := by decide +kernel
theorem dX6_readLine_2 : decode cX6_readLine 2 = .ok (.iconst 0, 1) := by decide +kernel
theorem dX6_readLine_3 : decode cX6_readLine 3 = .ok (.invokevirtual 40, 3) := by decide +kernel
theorem dX6_readLine_6 : decode cX6_readLine 6 = .ok (.istore_n 1, 1) := by decide +kernel
theorem dX6_readLine_7 : decode cX6_readLine 7 = .ok (.iload_n 1, 1) := by decide +kernel
theorem dX6_readLine_8 : decode cX6_readLine 8 = .ok (.ifCond .eq 35, 3) := by decide +kernel
theorem dX6_readLine_11 : decode cX6_readLine 11 = .ok (.aload_n 0, 1) := by decide +kernel
theorem dX6_readLine_12 : decode cX6_readLine 12 = .ok (.invokevirtual 36, 3) := by decide +kernel
theorem dX6_readLine_15 : decode cX6_readLine 15 = .ok (.bipush 63, 2) := by decide +kernel
theorem dX6_readLine_17 : decode cX6_readLine 17 = .ok (.if_icmp .ne 26, 3) := by decide +kernel
theorem dX6_readLine_20 : decode cX6_readLine 20 = .ok (.aload_n 0, 1) := by decide +kernel
theorem dX6_readLine_21 : decode cX6_readLine 21 = .ok (.dup, 1) := by decide +kernel
theorem dX6_readLine_22 : decode cX6_readLine 22 = .ok (.getfield 22, 3) := by decide +kernel
theorem dX6_readLine_25 : decode cX6_readLine 25 = .ok (.iconst 1, 1) := by decide +kernel
theorem dX6_readLine_26 : decode cX6_readLine 26 = .ok (.iadd, 1) := by decide +kernel
theorem dX6_readLine_27 : decode cX6_readLine 27 = .ok (.putfield 22, 3) := by decide +kernel
theorem dX6_readLine_30 : decode cX6_readLine 30 = .ok (.aload_n 0, 1) := by decide +kernel
theorem dX6_readLine_31 : decode cX6_readLine 31 = .ok (.bipush (-63), 2) := by decide +kernel
theorem dX6_readLine_33 : decode cX6_readLine 33 = .ok (.invokevirtual 44, 3) := by decide +kernel
theorem dX6_readLine_36 : decode cX6_readLine 36 = .ok (.aload_n 0, 1) := by decide +kernel
theorem dX6_readLine_37 : decode cX6_readLine 37 = .ok (.iconst 0, 1) := by decide +kernel
theorem dX6_readLine_38 : decode cX6_readLine 38 = .ok (.iconst 0, 1) := by decide +kernel
theorem dX6_readLine_39 : decode cX6_readLine 39 = .ok (.invokevirtual 40, 3) := by decide +kernel
theorem dX6_readLine_42 : decode cX6_readLine 42 = .ok (.istore_n 1, 1) := by decide +kernel
theorem dX6_readLine_43 : decode cX6_readLine 43 = .ok (.aload_n 0, 1) := by decide +kernel
theorem dX6_readLine_44 : decode cX6_readLine 44 = .ok (.bipush (-59), 2) := by decide +kernel
theorem dX6_readLine_46 : decode cX6_readLine 46 = .ok (.invokevirtual 44, 3) := by decide +kernel
theorem dX6_readLine_49 : decode cX6_readLine 49 = .ok (.iload_n 1, 1) := by decide +kernel
theorem dX6_readLine_50 : decode cX6_readLine 50 = .ok (.ireturn, 1) := by decide +kernel
theorem dX6_readLevel_0 : decode cX6_readLevel 0 = .ok (.iload_n 1, 1) := by decide +kernel
theorem dX6_readLevel_1 : decode cX6_readLevel 1 = .ok (.iconst 5, 1) := by decide +kernel
theorem dX6_readLevel_2 : decode cX6_readLevel 2 = .ok (.if_icmp .lt 9, 3) := by decide +kernel
theorem dX6_readLevel_5 : decode cX6_readLevel 5 = .ok (.aload_n 0, 1) := by decide +kernel
theorem dX6_readLevel_6 : decode cX6_readLevel 6 = .ok (.iload_n 2, 1) := by decide +kernel
theorem dX6_readLevel_7 : decode cX6_readLevel 7 = .ok (.invokevirtual 48, 3) := by decide +kernel
theorem dX6_readLevel_10 : decode cX6_readLevel 10 = .ok (.ireturn, 1) := by decide +kernel
theorem dX6_readLevel_11 : decode cX6_readLevel 11 = .ok (.aload_n 0, 1) := by decide +kernel
theorem dX6_readLevel_12 : decode cX6_readLevel 12 = .ok (.iload_n 1, 1) := by decide +kernel
theorem dX6_readLevel_13 : decode cX6_readLevel 13 = .ok (.iconst 1, 1) := by decide +kernel
theorem dX6_readLevel_14 : decode cX6_readLevel 14 = .ok (.iadd, 1) := by decide +kernel
theorem dX6_readLevel_15 : decode cX6_readLevel 15 = .ok (.iload_n 2, 1) := by decide +kernel
theorem dX6_readLevel_16 : decode cX6_readLevel 16 = .ok (.invokevirtual 40, 3) := by decide +kernel
theorem dX6_readLevel_19 : decode cX6_readLevel 19 = .ok (.istore_n 3, 1) := by decide +kernel
theorem dX6_readLevel_20 : decode cX6_readLevel 20 = .ok (.iload_n 1, 1) := by decide +kernel
theorem dX6_readLevel_21 : decode cX6_readLevel 21 = .ok (.iconst 2, 1) := by decide +kernel
theorem dX6_readLevel_22 : decode cX6_readLevel 22 = .ok (.if_icmp .ne 7, 3) := by decide +kernel
theorem dX6_readLevel_25 : decode cX6_readLevel 25 = .ok (.iconst 1, 1) := by decide +kernel
theorem dX6_readLevel_26 : decode cX6_readLevel 26 = .ok (.goto 5, 3) := by decide +kernel
theorem dX6_readLevel_29 : decode cX6_readLevel 29 = .ok (.bipush 120, 2) := by decide +kernel
theorem dX6_readLevel_31 : decode cX6_readLevel 31 = .ok (.istore 4, 2) := by decide +kernel
theorem dX6_readLevel_33 : decode cX6_readLevel 33 = .ok (.iconst 0, 1) := by decide +kernel
theorem dX6_readLevel_34 : decode cX6_readLevel 34 = .ok (.istore 5, 2) := by decide +kernel
theorem dX6_readLevel_36 : decode cX6_readLevel 36 = .ok (.iload_n 3, 1) := by decide +kernel
theorem dX6_readLevel_37 : decode cX6_readLevel 37 = .ok (.ifCond .eq 59, 3) := by decide +kernel
theorem dX6_readLevel_40 : decode cX6_readLevel 40 = .ok (.iload 5, 2) := by decide +kernel
theorem dX6_readLevel_42 : decode cX6_readLevel 42 = .ok (.iload 4, 2) := by decide +kernel
theorem dX6_readLevel_44 : decode cX6_readLevel 44 = .ok (.if_icmp .ge 52, 3) := by decide +kernel
theorem dX6_readLevel_47 : decode cX6_readLevel 47 = .ok (.aload_n 0, 1) := by decide +kernel
theorem dX6_readLevel_48 : decode cX6_readLevel 48 = .ok (.invokevirtual 36, 3) := by decide +kernel
theorem dX6_readLevel_51 : decode cX6_readLevel 51 = .ok (.invokestatic 52, 3) := by decide +kernel
theorem dX6_readLevel_54 : decode cX6_readLevel 54 = .ok (.iload_n 1, 1) := by decide +kernel
theorem dX6_readLevel_55 : decode cX6_readLevel 55 = .ok (.if_icmp .ne 41, 3) := by decide +kernel
theorem dX6_readLevel_58 : decode cX6_readLevel 58 = .ok (.aload_n 0, 1) := by decide +kernel
theorem dX6_readLevel_59 : decode cX6_readLevel 59 = .ok (.invokevirtual 36, 3) := by decide +kernel
theorem dX6_readLevel_62 : decode cX6_readLevel 62 = .ok (.istore 6, 2) := by decide +kernel
theorem dX6_readLevel_64 : decode cX6_readLevel 64 = .ok (.aload_n 0, 1) := by decide +kernel
theorem dX6_readLevel_65 : decode cX6_readLevel 65 = .ok (.dup, 1) := by decide +kernel
theorem dX6_readLevel_66 : decode cX6_readLevel 66 = .ok (.getfield 22, 3) := by decide +kernel
theorem dX6_readLevel_69 : decode cX6_readLevel 69 = .ok (.iconst 1, 1) := by decide +kernel
theorem dX6_readLevel_70 : decode cX6_readLevel 70 = .ok (.iadd, 1) := by decide +kernel
theorem dX6_readLevel_71 : decode cX6_readLevel 71 = .ok (.putfield 22, 3) := by decide +kernel
theorem dX6_readLevel_74 : decode cX6_readLevel 74 = .ok (.aload_n 0, 1) := by decide +kernel
theorem dX6_readLevel_75 : decode cX6_readLevel 75 = .ok (.iload_n 1, 1) := by decide +kernel
theorem dX6_readLevel_76 : decode cX6_readLevel 76 = .ok (.iconst 1, 1) := by decide +kernel
theorem dX6_readLevel_77 : decode cX6_readLevel 77 = .ok (.iadd, 1) := by decide +kernel
theorem dX6_readLevel_78 : decode cX6_readLevel 78 = .ok (.iload_n 2, 1) := by decide +kernel
theorem dX6_readLevel_79 : decode cX6_readLevel 79 = .ok (.invokevirtual 40, 3) := by decide +kernel
theorem dX6_readLevel_82 : decode cX6_readLevel 82 = .ok (.istore_n 3, 1) := by decide +kernel
theorem dX6_readLevel_83 : decode cX6_readLevel 83 = .ok (.aload_n 0, 1) := by decide +kernel
theorem dX6_readLevel_84 : decode cX6_readLevel 84 = .ok (.iload 6, 2) := by decide +kernel
theorem dX6_readLevel_86 : decode cX6_readLevel 86 = .ok (.ineg, 1) := by decide +kernel
theorem dX6_readLevel_87 : decode cX6_readLevel 87 = .ok (.invokevirtual 44, 3) := by decide +kernel
theorem dX6_readLevel_90 : decode cX6_readLevel 90 = .ok (.iinc 5 1, 3) := by decide +kernel
theorem dX6_readLevel_93 : decode cX6_readLevel 93 = .ok (.goto (-57), 3) := by decide +kernel
theorem dX6_readLevel_96 : decode cX6_readLevel 96 = .ok (.iload_n 3, 1) := by decide +kernel
theorem dX6_readLevel_97 : decode cX6_readLevel 97 = .ok (.ireturn, 1) := by decide +kernel
theorem dX6_readOne_0 : decode cX6_readOne 0 = .ok (.aload_n 0, 1) := by decide +kernel
theorem dX6_readOne_1 : decode cX6_readOne 1 = .ok (.invokevirtual 36, 3) := by decide +kernel
theorem dX6_readOne_4 : decode cX6_readOne 4 = .ok (.istore_n 2, 1) := by decide +kernel
theorem dX6_readOne_5 : decode cX6_readOne 5 = .ok (.iload_n 2, 1) := by decide +kernel
theorem dX6_readOne_6 : decode cX6_readOne 6 = .ok (.bipush 48, 2) := by decide +kernel
theorem dX6_readOne_8 : decode cX6_readOne 8 = .ok (.bipush 57, 2) := by decide +kernel
theorem dX6_readOne_10 : decode cX6_readOne 10 = .ok (.invokestatic 28, 3) := by decide +kernel
theorem dX6_readOne_13 : decode cX6_readOne 13 = .ok (.ifCond .eq 9, 3) := by decide +kernel
theorem dX6_readOne_16 : decode cX6_readOne 16 = .ok (.aload_n 0, 1) := by decide +kernel
theorem dX6_readOne_17 : decode cX6_readOne 17 = .ok (.invokevirtual 56, 3) := by decide +kernel
theorem dX6_readOne_20 : decode cX6_readOne 20 = .ok (.iconst 1, 1) := by decide +kernel
theorem dX6_readOne_21 : decode cX6_readOne 21 = .ok (.ireturn, 1) := by decide +kernel
theorem dX6_readOne_22 : decode cX6_readOne 22 = .ok (.iload_n 2, 1) := by decide +kernel
theorem dX6_readOne_23 : decode cX6_readOne 23 = .ok (.invokestatic 59, 3) := by decide +kernel
theorem dX6_readOne_26 : decode cX6_readOne 26 = .ok (.ifCond .eq 21, 3) := by decide +kernel
theorem dX6_readOne_29 : decode cX6_readOne 29 = .ok (.aload_n 0, 1) := by decide +kernel
theorem dX6_readOne_30 : decode cX6_readOne 30 = .ok (.dup, 1) := by decide +kernel
theorem dX6_readOne_31 : decode cX6_readOne 31 = .ok (.getfield 22, 3) := by decide +kernel
theorem dX6_readOne_34 : decode cX6_readOne 34 = .ok (.iconst 1, 1) := by decide +kernel
theorem dX6_readOne_35 : decode cX6_readOne 35 = .ok (.iadd, 1) := by decide +kernel
theorem dX6_readOne_36 : decode cX6_readOne 36 = .ok (.putfield 22, 3) := by decide +kernel
theorem dX6_readOne_39 : decode cX6_readOne 39 = .ok (.aload_n 0, 1) := by decide +kernel
theorem dX6_readOne_40 : decode cX6_readOne 40 = .ok (.iload_n 2, 1) := by decide +kernel
theorem dX6_readOne_41 : decode cX6_readOne 41 = .ok (.ineg, 1) := by decide +kernel
theorem dX6_readOne_42 : decode cX6_readOne 42 = .ok (.invokevirtual 44, 3) := by decide +kernel
theorem dX6_readOne_45 : decode cX6_readOne 45 = .ok (.iconst 1, 1) := by decide +kernel
theorem dX6_readOne_46 : decode cX6_readOne 46 = .ok (.ireturn, 1) := by decide +kernel
theorem dX6_readOne_47 : decode cX6_readOne 47 = .ok (.iload_n 2, 1) := by decide +kernel
theorem dX6_readOne_48 : decode cX6_readOne 48 = .ok (.bipush 33, 2) := by decide +kernel
theorem dX6_readOne_50 : decode cX6_readOne 50 = .ok (.if_icmp .eq 15, 3) := by decide +kernel
theorem dX6_readOne_53 : decode cX6_readOne 53 = .ok (.iload_n 2, 1) := by decide +kernel
theorem dX6_readOne_54 : decode cX6_readOne 54 = .ok (.bipush 45, 2) := by decide +kernel
theorem dX6_readOne_56 : decode cX6_readOne 56 = .ok (.if_icmp .eq 9, 3) := by decide +kernel
theorem dX6_readOne_59 : decode cX6_readOne 59 = .ok (.iload_n 2, 1) := by decide +kernel
theorem dX6_readOne_60 : decode cX6_readOne 60 = .ok (.bipush 40, 2) := by decide +kernel
theorem dX6_readOne_62 : decode cX6_readOne 62 = .ok (.if_icmp .ne 9, 3) := by decide +kernel
theorem dX6_readOne_65 : decode cX6_readOne 65 = .ok (.iload_n 1, 1) := by decide +kernel
theorem dX6_readOne_66 : decode cX6_readOne 66 = .ok (.bipush 6, 2) := by decide +kernel
theorem dX6_readOne_68 : decode cX6_readOne 68 = .ok (.if_icmp .lt 5, 3) := by decide +kernel
theorem dX6_readOne_71 : decode cX6_readOne 71 = .ok (.iconst 0, 1) := by decide +kernel
theorem dX6_readOne_72 : decode cX6_readOne 72 = .ok (.ireturn, 1) := by decide +kernel
theorem dX6_readOne_73 : decode cX6_readOne 73 = .ok (.aload_n 0, 1) := by decide +kernel
theorem dX6_readOne_74 : decode cX6_readOne 74 = .ok (.dup, 1) := by decide +kernel
theorem dX6_readOne_75 : decode cX6_readOne 75 = .ok (.getfield 22, 3) := by decide +kernel
theorem dX6_readOne_78 : decode cX6_readOne 78 = .ok (.iconst 1, 1) := by decide +kernel
theorem dX6_readOne_79 : decode cX6_readOne 79 = .ok (.iadd, 1) := by decide +kernel
theorem dX6_readOne_80 : decode cX6_readOne 80 = .ok (.putfield 22, 3) := by decide +kernel
theorem dX6_readOne_83 : decode cX6_readOne 83 = .ok (.iload_n 2, 1) := by decide +kernel
theorem dX6_readOne_84 : decode cX6_readOne 84 = .ok (.bipush 40, 2) := by decide +kernel
theorem dX6_readOne_86 : decode cX6_readOne 86 = .ok (.if_icmp .ne 13, 3) := by decide +kernel
theorem dX6_readOne_89 : decode cX6_readOne 89 = .ok (.aload_n 0, 1) := by decide +kernel
theorem dX6_readOne_90 : decode cX6_readOne 90 = .ok (.iload_n 1, 1) := by decide +kernel
theorem dX6_readOne_91 : decode cX6_readOne 91 = .ok (.iconst 1, 1) := by decide +kernel
theorem dX6_readOne_92 : decode cX6_readOne 92 = .ok (.iadd, 1) := by decide +kernel
theorem dX6_readOne_93 : decode cX6_readOne 93 = .ok (.invokevirtual 62, 3) := by decide +kernel
theorem dX6_readOne_96 : decode cX6_readOne 96 = .ok (.goto 11, 3) := by decide +kernel
theorem dX6_readOne_99 : decode cX6_readOne 99 = .ok (.aload_n 0, 1) := by decide +kernel
theorem dX6_readOne_100 : decode cX6_readOne 100 = .ok (.iload_n 2, 1) := by decide +kernel
theorem dX6_readOne_101 : decode cX6_readOne 101 = .ok (.iload_n 1, 1) := by decide +kernel
theorem dX6_readOne_102 : decode cX6_readOne 102 = .ok (.iconst 1, 1) := by decide +kernel
theorem dX6_readOne_103 : decode cX6_readOne 103 = .ok (.iadd, 1) := by decide +kernel
theorem dX6_readOne_104 : decode cX6_readOne 104 = .ok (.invokevirtual 65, 3) := by decide +kernel
theorem dX6_readOne_107 : decode cX6_readOne 107 = .ok (.ireturn, 1) := by decide +kernel
theorem dX6_readInside_0 : decode cX6_readInside 0 = .ok (.aload_n 0, 1) := by decide +kernel
theorem dX6_readInside_1 : decode cX6_readInside 1 = .ok (.iconst 0, 1) := by decide +kernel
theorem dX6_readInside_2 : decode cX6_readInside 2 = .ok (.iload_n 1, 1) := by decide +kernel
theorem dX6_readInside_3 : decode cX6_readInside 3 = .ok (.invokevirtual 40, 3) := by decide +kernel
theorem dX6_readInside_6 : decode cX6_readInside 6 = .ok (.ifCond .eq 12, 3) := by decide +kernel
theorem dX6_readInside_9 : decode cX6_readInside 9 = .ok (.aload_n 0, 1) := by decide +kernel
theorem dX6_readInside_10 : decode cX6_readInside 10 = .ok (.invokevirtual 36, 3) := by decide +kernel
theorem dX6_readInside_13 : decode cX6_readInside 13 = .ok (.bipush 41, 2) := by decide +kernel
theorem dX6_readInside_15 : decode cX6_readInside 15 = .ok (.if_icmp .eq 5, 3) := by decide +kernel
theorem dX6_readInside_18 : decode cX6_readInside 18 = .ok (.iconst 0, 1) := by decide +kernel
theorem dX6_readInside_19 : decode cX6_readInside 19 = .ok (.ireturn, 1) := by decide +kernel
theorem dX6_readInside_20 : decode cX6_readInside 20 = .ok (.aload_n 0, 1) := by decide +kernel
theorem dX6_readInside_21 : decode cX6_readInside 21 = .ok (.dup, 1) := by decide +kernel
theorem dX6_readInside_22 : decode cX6_readInside 22 = .ok (.getfield 22, 3) := by decide +kernel
theorem dX6_readInside_25 : decode cX6_readInside 25 = .ok (.iconst 1, 1) := by decide +kernel
theorem dX6_readInside_26 : decode cX6_readInside 26 = .ok (.iadd, 1) := by decide +kernel
theorem dX6_readInside_27 : decode cX6_readInside 27 = .ok (.putfield 22, 3) := by decide +kernel
theorem dX6_readInside_30 : decode cX6_readInside 30 = .ok (.iconst 1, 1) := by decide +kernel
theorem dX6_readInside_31 : decode cX6_readInside 31 = .ok (.ireturn, 1) := by decide +kernel
theorem dX6_readSigned_0 : decode cX6_readSigned 0 = .ok (.aload_n 0, 1) := by decide +kernel
theorem dX6_readSigned_1 : decode cX6_readSigned 1 = .ok (.iload_n 2, 1) := by decide +kernel
theorem dX6_readSigned_2 : decode cX6_readSigned 2 = .ok (.invokevirtual 48, 3) := by decide +kernel
theorem dX6_readSigned_5 : decode cX6_readSigned 5 = .ok (.istore_n 3, 1) := by decide +kernel
theorem dX6_readSigned_6 : decode cX6_readSigned 6 = .ok (.aload_n 0, 1) := by decide +kernel
theorem dX6_readSigned_7 : decode cX6_readSigned 7 = .ok (.iload_n 1, 1) := by decide +kernel
theorem dX6_readSigned_8 : decode cX6_readSigned 8 = .ok (.bipush 45, 2) := by decide +kernel
theorem dX6_readSigned_10 : decode cX6_readSigned 10 = .ok (.if_icmp .ne 8, 3) := by decide +kernel
theorem dX6_readSigned_13 : decode cX6_readSigned 13 = .ok (.bipush (-126), 2) := by decide +kernel
theorem dX6_readSigned_15 : decode cX6_readSigned 15 = .ok (.goto 5, 3) := by decide +kernel
theorem dX6_readSigned_18 : decode cX6_readSigned 18 = .ok (.iload_n 1, 1) := by decide +kernel
theorem dX6_readSigned_19 : decode cX6_readSigned 19 = .ok (.ineg, 1) := by decide +kernel
theorem dX6_readSigned_20 : decode cX6_readSigned 20 = .ok (.invokevirtual 44, 3) := by decide +kernel
theorem dX6_readSigned_23 : decode cX6_readSigned 23 = .ok (.iload_n 3, 1) := by decide +kernel
theorem dX6_readSigned_24 : decode cX6_readSigned 24 = .ok (.ireturn, 1) := by decide +kernel
theorem dX6_readNumber_0 : decode cX6_readNumber 0 = .ok (.iconst 0, 1) := by decide +kernel
theorem dX6_readNumber_1 : decode cX6_readNumber 1 = .ok (.istore_n 1, 1) := by decide +kernel
theorem dX6_readNumber_2 : decode cX6_readNumber 2 = .ok (.iconst 0, 1) := by decide +kernel
theorem dX6_readNumber_3 : decode cX6_readNumber 3 = .ok (.istore_n 2, 1) := by decide +kernel
theorem dX6_readNumber_4 : decode cX6_readNumber 4 = .ok (.iload_n 2, 1) := by decide +kernel
theorem dX6_readNumber_5 : decode cX6_readNumber 5 = .ok (.iconst 4, 1) := by decide +kernel
theorem dX6_readNumber_6 : decode cX6_readNumber 6 = .ok (.if_icmp .ge 46, 3) := by decide +kernel
theorem dX6_readNumber_9 : decode cX6_readNumber 9 = .ok (.aload_n 0, 1) := by decide +kernel
theorem dX6_readNumber_10 : decode cX6_readNumber 10 = .ok (.invokevirtual 36, 3) := by decide +kernel
theorem dX6_readNumber_13 : decode cX6_readNumber 13 = .ok (.bipush 48, 2) := by decide +kernel
theorem dX6_readNumber_15 : decode cX6_readNumber 15 = .ok (.bipush 57, 2) := by decide +kernel
theorem dX6_readNumber_17 : decode cX6_readNumber 17 = .ok (.invokestatic 28, 3) := by decide +kernel
theorem dX6_readNumber_20 : decode cX6_readNumber 20 = .ok (.ifCond .eq 32, 3) := by decide +kernel
theorem dX6_readNumber_23 : decode cX6_readNumber 23 = .ok (.iload_n 1, 1) := by decide +kernel
theorem dX6_readNumber_24 : decode cX6_readNumber 24 = .ok (.bipush 10, 2) := by decide +kernel
theorem dX6_readNumber_26 : decode cX6_readNumber 26 = .ok (.imul, 1) := by decide +kernel
theorem dX6_readNumber_27 : decode cX6_readNumber 27 = .ok (.aload_n 0, 1) := by decide +kernel
theorem dX6_readNumber_28 : decode cX6_readNumber 28 = .ok (.invokevirtual 36, 3) := by decide +kernel
theorem dX6_readNumber_31 : decode cX6_readNumber 31 = .ok (.iadd, 1) := by decide +kernel
theorem dX6_readNumber_32 : decode cX6_readNumber 32 = .ok (.bipush 48, 2) := by decide +kernel
theorem dX6_readNumber_34 : decode cX6_readNumber 34 = .ok (.isub, 1) := by decide +kernel
theorem dX6_readNumber_35 : decode cX6_readNumber 35 = .ok (.istore_n 1, 1) := by decide +kernel
theorem dX6_readNumber_36 : decode cX6_readNumber 36 = .ok (.aload_n 0, 1) := by decide +kernel
theorem dX6_readNumber_37 : decode cX6_readNumber 37 = .ok (.dup, 1) := by decide +kernel
theorem dX6_readNumber_38 : decode cX6_readNumber 38 = .ok (.getfield 22, 3) := by decide +kernel
theorem dX6_readNumber_41 : decode cX6_readNumber 41 = .ok (.iconst 1, 1) := by decide +kernel
theorem dX6_readNumber_42 : decode cX6_readNumber 42 = .ok (.iadd, 1) := by decide +kernel
theorem dX6_readNumber_43 : decode cX6_readNumber 43 = .ok (.putfield 22, 3) := by decide +kernel
theorem dX6_readNumber_46 : decode cX6_readNumber 46 = .ok (.iinc 2 1, 3) := by decide +kernel
theorem dX6_readNumber_49 : decode cX6_readNumber 49 = .ok (.goto (-45), 3) := by decide +kernel
theorem dX6_readNumber_52 : decode cX6_readNumber 52 = .ok (.aload_n 0, 1) := by decide +kernel
theorem dX6_readNumber_53 : decode cX6_readNumber 53 = .ok (.iload_n 1, 1) := by decide +kernel
theorem dX6_readNumber_54 : decode cX6_readNumber 54 = .ok (.invokevirtual 44, 3) := by decide +kernel
theorem dX6_readNumber_57 : decode cX6_readNumber 57 = .ok (.return_, 1) := by decide +kernel
theorem dX6_here_0 : decode cX6_here 0 = .ok (.aload_n 0, 1) := by decide +kernel
theorem dX6_here_1 : decode cX6_here 1 = .ok (.getfield 22, 3) := by decide +kernel
theorem dX6_here_4 : decode cX6_here 4 = .ok (.aload_n 0, 1) := by decide +kernel
theorem dX6_here_5 : decode cX6_here 5 = .ok (.getfield 18, 3) := by decide +kernel
theorem dX6_here_8 : decode cX6_here 8 = .ok (.if_icmp .ge 24, 3) := by decide +kernel
theorem dX6_here_11 : decode cX6_here 11 = .ok (.aload_n 0, 1) := by decide +kernel
theorem dX6_here_12 : decode cX6_here 12 = .ok (.getfield 22, 3) := by decide +kernel
theorem dX6_here_15 : decode cX6_here 15 = .ok (.bipush 120, 2) := by decide +kernel
theorem dX6_here_17 : decode cX6_here 17 = .ok (.if_icmp .ge 15, 3) := by decide +kernel
theorem dX6_here_20 : decode cX6_here 20 = .ok (.aload_n 0, 1) := by decide +kernel
theorem dX6_here_21 : decode cX6_here 21 = .ok (.getfield 9, 3) := by decide +kernel
theorem dX6_here_24 : decode cX6_here 24 = .ok (.aload_n 0, 1) := by decide +kernel
theorem dX6_here_25 : decode cX6_here 25 = .ok (.getfield 22, 3) := by decide +kernel
theorem dX6_here_28 : decode cX6_here 28 = .ok (.iaload, 1) := by decide +kernel
theorem dX6_here_29 : decode cX6_here 29 = .ok (.goto 4, 3) := by decide +kernel
theorem dX6_here_32 : decode cX6_here 32 = .ok (.iconst (-1), 1) := by decide +kernel
theorem dX6_here_33 : decode cX6_here 33 = .ok (.ireturn, 1) := by decide +kernel
theorem dX6_write_0 : decode cX6_write 0 = .ok (.aload_n 0, 1) := by decide +kernel
theorem dX6_write_1 : decode cX6_write 1 = .ok (.getfield 25, 3) := by decide +kernel
theorem dX6_write_4 : decode cX6_write 4 = .ok (.bipush 121, 2) := by decide +kernel
theorem dX6_write_6 : decode cX6_write 6 = .ok (.if_icmp .ge 23, 3) := by decide +kernel
theorem dX6_write_9 : decode cX6_write 9 = .ok (.aload_n 0, 1) := by decide +kernel
theorem dX6_write_10 : decode cX6_write 10 = .ok (.getfield 15, 3) := by decide +kernel
theorem dX6_write_13 : decode cX6_write 13 = .ok (.aload_n 0, 1) := by decide +kernel
theorem dX6_write_14 : decode cX6_write 14 = .ok (.getfield 25, 3) := by decide +kernel
theorem dX6_write_17 : decode cX6_write 17 = .ok (.iload_n 1, 1) := by decide +kernel
theorem dX6_write_18 : decode cX6_write 18 = .ok (.iastore, 1) := by decide +kernel
theorem dX6_write_19 : decode cX6_write 19 = .ok (.aload_n 0, 1) := by decide +kernel
theorem dX6_write_20 : decode cX6_write 20 = .ok (.dup, 1) := by decide +kernel
theorem dX6_write_21 : decode cX6_write 21 = .ok (.getfield 25, 3) := by decide +kernel
theorem dX6_write_24 : decode cX6_write 24 = .ok (.iconst 1, 1) := by decide +kernel
theorem dX6_write_25 : decode cX6_write 25 = .ok (.iadd, 1) := by decide +kernel
theorem dX6_write_26 : decode cX6_write 26 = .ok (.putfield 25, 3) := by decide +kernel
theorem dX6_write_29 : decode cX6_write 29 = .ok (.return_, 1) := by decide +kernel
theorem dX6_isName_0 : decode cX6_isName 0 = .ok (.iload_n 0, 1) := by decide +kernel
theorem dX6_isName_1 : decode cX6_isName 1 = .ok (.tableswitch 93 98 116 #[91, 91, 93, 93, 93, 93, 93, 93, 93, 91, 93, 93, 91, 93, 91, 93, 93, 91, 91], 91) := by decide +kernel
theorem dX6_isName_92 : decode cX6_isName 92 = .ok (.iconst 1, 1) := by decide +kernel
theorem dX6_isName_93 : decode cX6_isName 93 = .ok (.ireturn, 1) := by decide +kernel
theorem dX6_isName_94 : decode cX6_isName 94 = .ok (.iconst 0, 1) := by decide +kernel
theorem dX6_isName_95 : decode cX6_isName 95 = .ok (.ireturn, 1) := by decide +kernel
theorem dX6_levelOf_0 : decode cX6_levelOf 0 = .ok (.iload_n 0, 1) := by decide +kernel
theorem dX6_levelOf_1 : decode cX6_levelOf 1 = .ok (.lookupswitch 101 #[(37, 99), (38, 93), (42, 99), (43, 97), (45, 97), (47, 99), (60, 95), (61, 95), (62, 95), (124, 91)], 91) := by decide +kernel
theorem dX6_levelOf_92 : decode cX6_levelOf 92 = .ok (.iconst 0, 1) := by decide +kernel
theorem dX6_levelOf_93 : decode cX6_levelOf 93 = .ok (.ireturn, 1) := by decide +kernel
theorem dX6_levelOf_94 : decode cX6_levelOf 94 = .ok (.iconst 1, 1) := by decide +kernel
theorem dX6_levelOf_95 : decode cX6_levelOf 95 = .ok (.ireturn, 1) := by decide +kernel
theorem dX6_levelOf_96 : decode cX6_levelOf 96 = .ok (.iconst 2, 1) := by decide +kernel
theorem dX6_levelOf_97 : decode cX6_levelOf 97 = .ok (.ireturn, 1) := by decide +kernel
theorem dX6_levelOf_98 : decode cX6_levelOf 98 = .ok (.iconst 3, 1) := by decide +kernel
theorem dX6_levelOf_99 : decode cX6_levelOf 99 = .ok (.ireturn, 1) := by decide +kernel
theorem dX6_levelOf_100 : decode cX6_levelOf 100 = .ok (.iconst 4, 1) := by decide +kernel
theorem dX6_levelOf_101 : decode cX6_levelOf 101 = .ok (.ireturn, 1) := by decide +kernel
theorem dX6_levelOf_102 : decode cX6_levelOf 102 = .ok (.iconst (-1), 1) := by decide +kernel
theorem dX6_levelOf_103 : decode cX6_levelOf 103 = .ok (.ireturn, 1) := by decide +kernel
theorem dX7_init_0 : decode cX7_init 0 = .ok (.aload_n 0, 1) := by decide +kernel
theorem dX7_init_1 : decode cX7_init 1 = .ok (.invokespecial 3, 3) := by decide +kernel
theorem dX7_init_4 : decode cX7_init 4 = .ok (.aload_n 0, 1) := by decide +kernel
theorem dX7_init_5 : decode cX7_init 5 = .ok (.bipush 6, 2) := by decide +kernel
theorem dX7_init_7 : decode cX7_init 7 = .ok (.newarray .int, 2) := by decide +kernel
theorem dX7_init_9 : decode cX7_init 9 = .ok (.putfield 9, 3) := by decide +kernel
theorem dX7_init_12 : decode cX7_init 12 = .ok (.aload_n 0, 1) := by decide +kernel
theorem dX7_init_13 : decode cX7_init 13 = .ok (.bipush 6, 2) := by decide +kernel
theorem dX7_init_15 : decode cX7_init 15 = .ok (.newarray .int, 2) := by decide +kernel
theorem dX7_init_17 : decode cX7_init 17 = .ok (.putfield 15, 3) := by decide +kernel
theorem dX7_init_20 : decode cX7_init 20 = .ok (.aload_n 0, 1) := by decide +kernel
theorem dX7_init_21 : decode cX7_init 21 = .ok (.bipush 6, 2) := by decide +kernel
theorem dX7_init_23 : decode cX7_init 23 = .ok (.iconst 4, 1) := by decide +kernel
theorem dX7_init_24 : decode cX7_init 24 = .ok (.multianewarray 18 2, 4) := by decide +kernel
theorem dX7_init_28 : decode cX7_init 28 = .ok (.putfield 20, 3) := by decide +kernel
theorem dX7_init_31 : decode cX7_init 31 = .ok (.aload_n 0, 1) := by decide +kernel
theorem dX7_init_32 : decode cX7_init 32 = .ok (.bipush 7, 2) := by decide +kernel
theorem dX7_init_34 : decode cX7_init 34 = .ok (.newarray .int, 2) := by decide +kernel
theorem dX7_init_36 : decode cX7_init 36 = .ok (.putfield 23, 3) := by decide +kernel
theorem dX7_init_39 : decode cX7_init 39 = .ok (.aload_n 0, 1) := by decide +kernel
theorem dX7_init_40 : decode cX7_init 40 = .ok (.aload_n 1, 1) := by decide +kernel
theorem dX7_init_41 : decode cX7_init 41 = .ok (.putfield 26, 3) := by decide +kernel
theorem dX7_init_44 : decode cX7_init 44 = .ok (.aload_n 0, 1) := by decide +kernel
theorem dX7_init_45 : decode cX7_init 45 = .ok (.aload_n 2, 1) := by decide +kernel
theorem dX7_init_46 : decode cX7_init 46 = .ok (.putfield 30, 3) := by decide +kernel
theorem dX7_init_49 : decode cX7_init 49 = .ok (.return_, 1) := by decide +kernel
theorem dX7_recall_0 : decode cX7_recall 0 = .ok (.iconst 0, 1) := by decide +kernel
theorem dX7_recall_1 : decode cX7_recall 1 = .ok (.istore_n 1, 1) := by decide +kernel
theorem dX7_recall_2 : decode cX7_recall 2 = .ok (.iload_n 1, 1) := by decide +kernel
theorem dX7_recall_3 : decode cX7_recall 3 = .ok (.bipush 6, 2) := by decide +kernel
theorem dX7_recall_5 : decode cX7_recall 5 = .ok (.if_icmp .ge 39, 3) := by decide +kernel
theorem dX7_recall_8 : decode cX7_recall 8 = .ok (.aload_n 0, 1) := by decide +kernel
theorem dX7_recall_9 : decode cX7_recall 9 = .ok (.getfield 9, 3) := by decide +kernel
theorem dX7_recall_12 : decode cX7_recall 12 = .ok (.iload_n 1, 1) := by decide +kernel
theorem dX7_recall_13 : decode cX7_recall 13 = .ok (.aload_n 0, 1) := by decide +kernel
theorem dX7_recall_14 : decode cX7_recall 14 = .ok (.getfield 26, 3) := by decide +kernel
theorem dX7_recall_17 : decode cX7_recall 17 = .ok (.iconst 1, 1) := by decide +kernel
theorem dX7_recall_18 : decode cX7_recall 18 = .ok (.iload_n 1, 1) := by decide +kernel
theorem dX7_recall_19 : decode cX7_recall 19 = .ok (.invokevirtual 34, 3) := by decide +kernel
theorem dX7_recall_22 : decode cX7_recall 22 = .ok (.iastore, 1) := by decide +kernel
theorem dX7_recall_23 : decode cX7_recall 23 = .ok (.aload_n 0, 1) := by decide +kernel
theorem dX7_recall_24 : decode cX7_recall 24 = .ok (.getfield 15, 3) := by decide +kernel
theorem dX7_recall_27 : decode cX7_recall 27 = .ok (.iload_n 1, 1) := by decide +kernel
theorem dX7_recall_28 : decode cX7_recall 28 = .ok (.aload_n 0, 1) := by decide +kernel
theorem dX7_recall_29 : decode cX7_recall 29 = .ok (.getfield 26, 3) := by decide +kernel
theorem dX7_recall_32 : decode cX7_recall 32 = .ok (.iconst 2, 1) := by decide +kernel
theorem dX7_recall_33 : decode cX7_recall 33 = .ok (.iload_n 1, 1) := by decide +kernel
theorem dX7_recall_34 : decode cX7_recall 34 = .ok (.invokevirtual 34, 3) := by decide +kernel
theorem dX7_recall_37 : decode cX7_recall 37 = .ok (.iastore, 1) := by decide +kernel
theorem dX7_recall_38 : decode cX7_recall 38 = .ok (.iinc 1 1, 3) := by decide +kernel
theorem dX7_recall_41 : decode cX7_recall 41 = .ok (.goto (-39), 3) := by decide +kernel
theorem dX7_recall_44 : decode cX7_recall 44 = .ok (.return_, 1) := by decide +kernel
theorem dX7_coinOf_0 : decode cX7_coinOf 0 = .ok (.iload_n 1, 1) := by decide +kernel
theorem dX7_coinOf_1 : decode cX7_coinOf 1 = .ok (.iconst 0, 1) := by decide +kernel
theorem dX7_coinOf_2 : decode cX7_coinOf 2 = .ok (.iconst 5, 1) := by decide +kernel
theorem dX7_coinOf_3 : decode cX7_coinOf 3 = .ok (.invokestatic 40, 3) := by decide +kernel
theorem dX7_coinOf_6 : decode cX7_coinOf 6 = .ok (.ifCond .eq 12, 3) := by decide +kernel
theorem dX7_coinOf_9 : decode cX7_coinOf 9 = .ok (.aload_n 0, 1) := by decide +kernel
theorem dX7_coinOf_10 : decode cX7_coinOf 10 = .ok (.getfield 9, 3) := by decide +kernel
theorem dX7_coinOf_13 : decode cX7_coinOf 13 = .ok (.iload_n 1, 1) := by decide +kernel
theorem dX7_coinOf_14 : decode cX7_coinOf 14 = .ok (.iaload, 1) := by decide +kernel
theorem dX7_coinOf_15 : decode cX7_coinOf 15 = .ok (.goto 4, 3) := by decide +kernel
theorem dX7_coinOf_18 : decode cX7_coinOf 18 = .ok (.iconst 0, 1) := by decide +kernel
theorem dX7_coinOf_19 : decode cX7_coinOf 19 = .ok (.ireturn, 1) := by decide +kernel
theorem dX7_pointsOf_0 : decode cX7_pointsOf 0 = .ok (.iload_n 1, 1) := by decide +kernel
theorem dX7_pointsOf_1 : decode cX7_pointsOf 1 = .ok (.iconst 0, 1) := by decide +kernel
theorem dX7_pointsOf_2 : decode cX7_pointsOf 2 = .ok (.iconst 5, 1) := by decide +kernel
theorem dX7_pointsOf_3 : decode cX7_pointsOf 3 = .ok (.invokestatic 40, 3) := by decide +kernel
theorem dX7_pointsOf_6 : decode cX7_pointsOf 6 = .ok (.ifCond .eq 12, 3) := by decide +kernel
theorem dX7_pointsOf_9 : decode cX7_pointsOf 9 = .ok (.aload_n 0, 1) := by decide +kernel
theorem dX7_pointsOf_10 : decode cX7_pointsOf 10 = .ok (.getfield 15, 3) := by decide +kernel
theorem dX7_pointsOf_13 : decode cX7_pointsOf 13 = .ok (.iload_n 1, 1) := by decide +kernel
theorem dX7_pointsOf_14 : decode cX7_pointsOf 14 = .ok (.iaload, 1) := by decide +kernel
theorem dX7_pointsOf_15 : decode cX7_pointsOf 15 = .ok (.goto 4, 3) := by decide +kernel
theorem dX7_pointsOf_18 : decode cX7_pointsOf 18 = .ok (.iconst 0, 1) := by decide +kernel
theorem dX7_pointsOf_19 : decode cX7_pointsOf 19 = .ok (.ireturn, 1) := by decide +kernel
theorem dX7_think_0 : decode cX7_think 0 = .ok (.iload_n 1, 1) := by decide +kernel
theorem dX7_think_1 : decode cX7_think 1 = .ok (.iconst 0, 1) := by decide +kernel
theorem dX7_think_2 : decode cX7_think 2 = .ok (.iconst 5, 1) := by decide +kernel
theorem dX7_think_3 : decode cX7_think 3 = .ok (.invokestatic 40, 3) := by decide +kernel
theorem dX7_think_6 : decode cX7_think 6 = .ok (.ifCond .eq 17, 3) := by decide +kernel
theorem dX7_think_9 : decode cX7_think 9 = .ok (.aload_n 0, 1) := by decide +kernel
theorem dX7_think_10 : decode cX7_think 10 = .ok (.getfield 9, 3) := by decide +kernel
theorem dX7_think_13 : decode cX7_think 13 = .ok (.iload_n 1, 1) := by decide +kernel
theorem dX7_think_14 : decode cX7_think 14 = .ok (.iload_n 2, 1) := by decide +kernel
theorem dX7_think_15 : decode cX7_think 15 = .ok (.iastore, 1) := by decide +kernel
theorem dX7_think_16 : decode cX7_think 16 = .ok (.aload_n 0, 1) := by decide +kernel
theorem dX7_think_17 : decode cX7_think 17 = .ok (.getfield 15, 3) := by decide +kernel
theorem dX7_think_20 : decode cX7_think 20 = .ok (.iload_n 1, 1) := by decide +kernel
theorem dX7_think_21 : decode cX7_think 21 = .ok (.iload_n 3, 1) := by decide +kernel
theorem dX7_think_22 : decode cX7_think 22 = .ok (.iastore, 1) := by decide +kernel
theorem dX7_think_23 : decode cX7_think 23 = .ok (.return_, 1) := by decide +kernel
theorem dX7_worthOf_0 : decode cX7_worthOf 0 = .ok (.aload_n 0, 1) := by decide +kernel
theorem dX7_worthOf_1 : decode cX7_worthOf 1 = .ok (.getfield 30, 3) := by decide +kernel
theorem dX7_worthOf_4 : decode cX7_worthOf 4 = .ok (.bipush 115, 2) := by decide +kernel
theorem dX7_worthOf_6 : decode cX7_worthOf 6 = .ok (.iload_n 1, 1) := by decide +kernel
theorem dX7_worthOf_7 : decode cX7_worthOf 7 = .ok (.invokevirtual 44, 3) := by decide +kernel
theorem dX7_worthOf_10 : decode cX7_worthOf 10 = .ok (.aload_n 0, 1) := by decide +kernel
theorem dX7_worthOf_11 : decode cX7_worthOf 11 = .ok (.getfield 30, 3) := by decide +kernel
theorem dX7_worthOf_14 : decode cX7_worthOf 14 = .ok (.bipush 98, 2) := by decide +kernel
theorem dX7_worthOf_16 : decode cX7_worthOf 16 = .ok (.aload_n 0, 1) := by decide +kernel
theorem dX7_worthOf_17 : decode cX7_worthOf 17 = .ok (.getfield 26, 3) := by decide +kernel
theorem dX7_worthOf_20 : decode cX7_worthOf 20 = .ok (.bipush 7, 2) := by decide +kernel
theorem dX7_worthOf_22 : decode cX7_worthOf 22 = .ok (.iload_n 1, 1) := by decide +kernel
theorem dX7_worthOf_23 : decode cX7_worthOf 23 = .ok (.invokevirtual 34, 3) := by decide +kernel
theorem dX7_worthOf_26 : decode cX7_worthOf 26 = .ok (.invokevirtual 44, 3) := by decide +kernel
theorem dX7_worthOf_29 : decode cX7_worthOf 29 = .ok (.aload_n 0, 1) := by decide +kernel
theorem dX7_worthOf_30 : decode cX7_worthOf 30 = .ok (.getfield 30, 3) := by decide +kernel
theorem dX7_worthOf_33 : decode cX7_worthOf 33 = .ok (.bipush 110, 2) := by decide +kernel
theorem dX7_worthOf_35 : decode cX7_worthOf 35 = .ok (.aload_n 0, 1) := by decide +kernel
theorem dX7_worthOf_36 : decode cX7_worthOf 36 = .ok (.getfield 26, 3) := by decide +kernel
theorem dX7_worthOf_39 : decode cX7_worthOf 39 = .ok (.getfield 50, 3) := by decide +kernel
theorem dX7_worthOf_42 : decode cX7_worthOf 42 = .ok (.invokevirtual 44, 3) := by decide +kernel
theorem dX7_worthOf_45 : decode cX7_worthOf 45 = .ok (.aload_n 0, 1) := by decide +kernel
theorem dX7_worthOf_46 : decode cX7_worthOf 46 = .ok (.getfield 30, 3) := by decide +kernel
theorem dX7_worthOf_49 : decode cX7_worthOf 49 = .ok (.bipush 116, 2) := by decide +kernel
theorem dX7_worthOf_51 : decode cX7_worthOf 51 = .ok (.iload_n 2, 1) := by decide +kernel
theorem dX7_worthOf_52 : decode cX7_worthOf 52 = .ok (.invokevirtual 44, 3) := by decide +kernel
theorem dX7_worthOf_55 : decode cX7_worthOf 55 = .ok (.aload_n 0, 1) := by decide +kernel
theorem dX7_worthOf_56 : decode cX7_worthOf 56 = .ok (.getfield 30, 3) := by decide +kernel
theorem dX7_worthOf_59 : decode cX7_worthOf 59 = .ok (.bipush 107, 2) := by decide +kernel
theorem dX7_worthOf_61 : decode cX7_worthOf 61 = .ok (.iload_n 3, 1) := by decide +kernel
theorem dX7_worthOf_62 : decode cX7_worthOf 62 = .ok (.invokevirtual 44, 3) := by decide +kernel
theorem dX7_worthOf_65 : decode cX7_worthOf 65 = .ok (.aload_n 0, 1) := by decide +kernel
theorem dX7_worthOf_66 : decode cX7_worthOf 66 = .ok (.getfield 30, 3) := by decide +kernel
theorem dX7_worthOf_69 : decode cX7_worthOf 69 = .ok (.bipush 99, 2) := by decide +kernel
theorem dX7_worthOf_71 : decode cX7_worthOf 71 = .ok (.aload_n 0, 1) := by decide +kernel
theorem dX7_worthOf_72 : decode cX7_worthOf 72 = .ok (.iload_n 2, 1) := by decide +kernel
theorem dX7_worthOf_73 : decode cX7_worthOf 73 = .ok (.invokevirtual 54, 3) := by decide +kernel
theorem dX7_worthOf_76 : decode cX7_worthOf 76 = .ok (.invokevirtual 44, 3) := by decide +kernel
theorem dX7_worthOf_79 : decode cX7_worthOf 79 = .ok (.aload_n 0, 1) := by decide +kernel
theorem dX7_worthOf_80 : decode cX7_worthOf 80 = .ok (.getfield 30, 3) := by decide +kernel
theorem dX7_worthOf_83 : decode cX7_worthOf 83 = .ok (.bipush 112, 2) := by decide +kernel
theorem dX7_worthOf_85 : decode cX7_worthOf 85 = .ok (.aload_n 0, 1) := by decide +kernel
theorem dX7_worthOf_86 : decode cX7_worthOf 86 = .ok (.iload_n 2, 1) := by decide +kernel
theorem dX7_worthOf_87 : decode cX7_worthOf 87 = .ok (.invokevirtual 58, 3) := by decide +kernel
theorem dX7_worthOf_90 : decode cX7_worthOf 90 = .ok (.invokevirtual 44, 3) := by decide +kernel
theorem dX7_worthOf_93 : decode cX7_worthOf 93 = .ok (.iconst 0, 1) := by decide +kernel
theorem dX7_worthOf_94 : decode cX7_worthOf 94 = .ok (.sipush 999, 3) := by decide +kernel
theorem dX7_worthOf_97 : decode cX7_worthOf 97 = .ok (.aload_n 0, 1) := by decide +kernel
theorem dX7_worthOf_98 : decode cX7_worthOf 98 = .ok (.getfield 30, 3) := by decide +kernel
theorem dX7_worthOf_101 : decode cX7_worthOf 101 = .ok (.aload_n 0, 1) := by decide +kernel
theorem dX7_worthOf_102 : decode cX7_worthOf 102 = .ok (.getfield 26, 3) := by decide +kernel
theorem dX7_worthOf_105 : decode cX7_worthOf 105 = .ok (.bipush 8, 2) := by decide +kernel
theorem dX7_worthOf_107 : decode cX7_worthOf 107 = .ok (.iload_n 1, 1) := by decide +kernel
theorem dX7_worthOf_108 : decode cX7_worthOf 108 = .ok (.invokevirtual 34, 3) := by decide +kernel
theorem dX7_worthOf_111 : decode cX7_worthOf 111 = .ok (.invokevirtual 61, 3) := by decide +kernel
theorem dX7_worthOf_114 : decode cX7_worthOf 114 = .ok (.invokestatic 64, 3) := by decide +kernel
theorem dX7_worthOf_117 : decode cX7_worthOf 117 = .ok (.invokestatic 69, 3) := by decide +kernel
theorem dX7_worthOf_120 : decode cX7_worthOf 120 = .ok (.ireturn, 1) := by decide +kernel
theorem dX7_worthOfFirst_0 : decode cX7_worthOfFirst 0 = .ok (.iload_n 1, 1) := by decide +kernel
theorem dX7_worthOfFirst_1 : decode cX7_worthOfFirst 1 = .ok (.iconst 0, 1) := by decide +kernel
theorem dX7_worthOfFirst_2 : decode cX7_worthOfFirst 2 = .ok (.iconst 5, 1) := by decide +kernel
theorem dX7_worthOfFirst_3 : decode cX7_worthOfFirst 3 = .ok (.invokestatic 40, 3) := by decide +kernel
theorem dX7_worthOfFirst_6 : decode cX7_worthOfFirst 6 = .ok (.ifCond .eq 23, 3) := by decide +kernel
theorem dX7_worthOfFirst_9 : decode cX7_worthOfFirst 9 = .ok (.iload_n 2, 1) := by decide +kernel
theorem dX7_worthOfFirst_10 : decode cX7_worthOfFirst 10 = .ok (.iconst 0, 1) := by decide +kernel
theorem dX7_worthOfFirst_11 : decode cX7_worthOfFirst 11 = .ok (.iconst 3, 1) := by decide +kernel
theorem dX7_worthOfFirst_12 : decode cX7_worthOfFirst 12 = .ok (.invokestatic 40, 3) := by decide +kernel
theorem dX7_worthOfFirst_15 : decode cX7_worthOfFirst 15 = .ok (.ifCond .eq 14, 3) := by decide +kernel
theorem dX7_worthOfFirst_18 : decode cX7_worthOfFirst 18 = .ok (.aload_n 0, 1) := by decide +kernel
theorem dX7_worthOfFirst_19 : decode cX7_worthOfFirst 19 = .ok (.getfield 20, 3) := by decide +kernel
theorem dX7_worthOfFirst_22 : decode cX7_worthOfFirst 22 = .ok (.iload_n 1, 1) := by decide +kernel
theorem dX7_worthOfFirst_23 : decode cX7_worthOfFirst 23 = .ok (.aaload, 1) := by decide +kernel
theorem dX7_worthOfFirst_24 : decode cX7_worthOfFirst 24 = .ok (.iload_n 2, 1) := by decide +kernel
theorem dX7_worthOfFirst_25 : decode cX7_worthOfFirst 25 = .ok (.iaload, 1) := by decide +kernel
theorem dX7_worthOfFirst_26 : decode cX7_worthOfFirst 26 = .ok (.goto 4, 3) := by decide +kernel
theorem dX7_worthOfFirst_29 : decode cX7_worthOfFirst 29 = .ok (.iconst 0, 1) := by decide +kernel
theorem dX7_worthOfFirst_30 : decode cX7_worthOfFirst 30 = .ok (.ireturn, 1) := by decide +kernel
theorem dX7_weigh_0 : decode cX7_weigh 0 = .ok (.aload_n 0, 1) := by decide +kernel
theorem dX7_weigh_1 : decode cX7_weigh 1 = .ok (.getfield 23, 3) := by decide +kernel
theorem dX7_weigh_4 : decode cX7_weigh 4 = .ok (.aload_n 0, 1) := by decide +kernel
theorem dX7_weigh_5 : decode cX7_weigh 5 = .ok (.getfield 26, 3) := by decide +kernel
theorem dX7_weigh_8 : decode cX7_weigh 8 = .ok (.getfield 50, 3) := by decide +kernel
theorem dX7_weigh_11 : decode cX7_weigh 11 = .ok (.iconst 0, 1) := by decide +kernel
theorem dX7_weigh_12 : decode cX7_weigh 12 = .ok (.iastore, 1) := by decide +kernel
theorem dX7_weigh_13 : decode cX7_weigh 13 = .ok (.aload_n 0, 1) := by decide +kernel
theorem dX7_weigh_14 : decode cX7_weigh 14 = .ok (.getfield 26, 3) := by decide +kernel
theorem dX7_weigh_17 : decode cX7_weigh 17 = .ok (.getfield 50, 3) := by decide +kernel
theorem dX7_weigh_20 : decode cX7_weigh 20 = .ok (.iconst 1, 1) := by decide +kernel
theorem dX7_weigh_21 : decode cX7_weigh 21 = .ok (.isub, 1) := by decide +kernel
theorem dX7_weigh_22 : decode cX7_weigh 22 = .ok (.istore_n 2, 1) := by decide +kernel
theorem dX7_weigh_23 : decode cX7_weigh 23 = .ok (.iload_n 2, 1) := by decide +kernel
theorem dX7_weigh_24 : decode cX7_weigh 24 = .ok (.ifCond .lt 71, 3) := by decide +kernel
theorem dX7_weigh_27 : decode cX7_weigh 27 = .ok (.iconst 1, 1) := by decide +kernel
theorem dX7_weigh_28 : decode cX7_weigh 28 = .ok (.istore_n 3, 1) := by decide +kernel
theorem dX7_weigh_29 : decode cX7_weigh 29 = .ok (.iload_n 3, 1) := by decide +kernel
theorem dX7_weigh_30 : decode cX7_weigh 30 = .ok (.iconst 3, 1) := by decide +kernel
theorem dX7_weigh_31 : decode cX7_weigh 31 = .ok (.if_icmp .gt 35, 3) := by decide +kernel
theorem dX7_weigh_34 : decode cX7_weigh 34 = .ok (.aload_n 0, 1) := by decide +kernel
theorem dX7_weigh_35 : decode cX7_weigh 35 = .ok (.getfield 20, 3) := by decide +kernel
theorem dX7_weigh_38 : decode cX7_weigh 38 = .ok (.iload_n 2, 1) := by decide +kernel
theorem dX7_weigh_39 : decode cX7_weigh 39 = .ok (.aaload, 1) := by decide +kernel
theorem dX7_weigh_40 : decode cX7_weigh 40 = .ok (.iload_n 3, 1) := by decide +kernel
theorem dX7_weigh_41 : decode cX7_weigh 41 = .ok (.aload_n 0, 1) := by decide +kernel
theorem dX7_weigh_42 : decode cX7_weigh 42 = .ok (.getfield 20, 3) := by decide +kernel
theorem dX7_weigh_45 : decode cX7_weigh 45 = .ok (.iload_n 2, 1) := by decide +kernel
theorem dX7_weigh_46 : decode cX7_weigh 46 = .ok (.aaload, 1) := by decide +kernel
theorem dX7_weigh_47 : decode cX7_weigh 47 = .ok (.iload_n 3, 1) := by decide +kernel
theorem dX7_weigh_48 : decode cX7_weigh 48 = .ok (.iconst 1, 1) := by decide +kernel
theorem dX7_weigh_49 : decode cX7_weigh 49 = .ok (.isub, 1) := by decide +kernel
theorem dX7_weigh_50 : decode cX7_weigh 50 = .ok (.iaload, 1) := by decide +kernel
theorem dX7_weigh_51 : decode cX7_weigh 51 = .ok (.aload_n 0, 1) := by decide +kernel
theorem dX7_weigh_52 : decode cX7_weigh 52 = .ok (.iload_n 1, 1) := by decide +kernel
theorem dX7_weigh_53 : decode cX7_weigh 53 = .ok (.iload_n 2, 1) := by decide +kernel
theorem dX7_weigh_54 : decode cX7_weigh 54 = .ok (.iload_n 3, 1) := by decide +kernel
theorem dX7_weigh_55 : decode cX7_weigh 55 = .ok (.invokevirtual 72, 3) := by decide +kernel
theorem dX7_weigh_58 : decode cX7_weigh 58 = .ok (.iadd, 1) := by decide +kernel
theorem dX7_weigh_59 : decode cX7_weigh 59 = .ok (.iastore, 1) := by decide +kernel
theorem dX7_weigh_60 : decode cX7_weigh 60 = .ok (.iinc 3 1, 3) := by decide +kernel
theorem dX7_weigh_63 : decode cX7_weigh 63 = .ok (.goto (-34), 3) := by decide +kernel
theorem dX7_weigh_66 : decode cX7_weigh 66 = .ok (.aload_n 0, 1) := by decide +kernel
theorem dX7_weigh_67 : decode cX7_weigh 67 = .ok (.getfield 23, 3) := by decide +kernel
theorem dX7_weigh_70 : decode cX7_weigh 70 = .ok (.iload_n 2, 1) := by decide +kernel
theorem dX7_weigh_71 : decode cX7_weigh 71 = .ok (.aload_n 0, 1) := by decide +kernel
theorem dX7_weigh_72 : decode cX7_weigh 72 = .ok (.getfield 23, 3) := by decide +kernel
theorem dX7_weigh_75 : decode cX7_weigh 75 = .ok (.iload_n 2, 1) := by decide +kernel
theorem dX7_weigh_76 : decode cX7_weigh 76 = .ok (.iconst 1, 1) := by decide +kernel
theorem dX7_weigh_77 : decode cX7_weigh 77 = .ok (.iadd, 1) := by decide +kernel
theorem dX7_weigh_78 : decode cX7_weigh 78 = .ok (.iaload, 1) := by decide +kernel
theorem dX7_weigh_79 : decode cX7_weigh 79 = .ok (.aload_n 0, 1) := by decide +kernel
theorem dX7_weigh_80 : decode cX7_weigh 80 = .ok (.getfield 20, 3) := by decide +kernel
theorem dX7_weigh_83 : decode cX7_weigh 83 = .ok (.iload_n 2, 1) := by decide +kernel
theorem dX7_weigh_84 : decode cX7_weigh 84 = .ok (.aaload, 1) := by decide +kernel
theorem dX7_weigh_85 : decode cX7_weigh 85 = .ok (.iconst 3, 1) := by decide +kernel
theorem dX7_weigh_86 : decode cX7_weigh 86 = .ok (.iaload, 1) := by decide +kernel
theorem dX7_weigh_87 : decode cX7_weigh 87 = .ok (.iadd, 1) := by decide +kernel
theorem dX7_weigh_88 : decode cX7_weigh 88 = .ok (.iastore, 1) := by decide +kernel
theorem dX7_weigh_89 : decode cX7_weigh 89 = .ok (.iinc 2 (-1), 3) := by decide +kernel
theorem dX7_weigh_92 : decode cX7_weigh 92 = .ok (.goto (-69), 3) := by decide +kernel
theorem dX7_weigh_95 : decode cX7_weigh 95 = .ok (.return_, 1) := by decide +kernel
theorem dX7_choose_0 : decode cX7_choose 0 = .ok (.aload_n 0, 1) := by decide +kernel
theorem dX7_choose_1 : decode cX7_choose 1 = .ok (.aload_n 0, 1) := by decide +kernel
theorem dX7_choose_2 : decode cX7_choose 2 = .ok (.getfield 26, 3) := by decide +kernel
theorem dX7_choose_5 : decode cX7_choose 5 = .ok (.iconst 5, 1) := by decide +kernel
theorem dX7_choose_6 : decode cX7_choose 6 = .ok (.iload_n 1, 1) := by decide +kernel
theorem dX7_choose_7 : decode cX7_choose 7 = .ok (.invokevirtual 34, 3) := by decide +kernel
theorem dX7_choose_10 : decode cX7_choose 10 = .ok (.aload_n 0, 1) := by decide +kernel
theorem dX7_choose_11 : decode cX7_choose 11 = .ok (.getfield 26, 3) := by decide +kernel
theorem dX7_choose_14 : decode cX7_choose 14 = .ok (.iload_n 1, 1) := by decide +kernel
theorem dX7_choose_15 : decode cX7_choose 15 = .ok (.invokevirtual 76, 3) := by decide +kernel
theorem dX7_choose_18 : decode cX7_choose 18 = .ok (.bipush 100, 2) := by decide +kernel
theorem dX7_choose_20 : decode cX7_choose 20 = .ok (.invokevirtual 79, 3) := by decide +kernel
theorem dX7_choose_23 : decode cX7_choose 23 = .ok (.return_, 1) := by decide +kernel
theorem dX7_search_0 : decode cX7_search 0 = .ok (.aload_n 0, 1) := by decide +kernel
theorem dX7_search_1 : decode cX7_search 1 = .ok (.iload_n 1, 1) := by decide +kernel
theorem dX7_search_2 : decode cX7_search 2 = .ok (.putfield 83, 3) := by decide +kernel
theorem dX7_search_5 : decode cX7_search 5 = .ok (.aload_n 0, 1) := by decide +kernel
theorem dX7_search_6 : decode cX7_search 6 = .ok (.iload_n 2, 1) := by decide +kernel
theorem dX7_search_7 : decode cX7_search 7 = .ok (.putfield 86, 3) := by decide +kernel
theorem dX7_search_10 : decode cX7_search 10 = .ok (.aload_n 0, 1) := by decide +kernel
theorem dX7_search_11 : decode cX7_search 11 = .ok (.iload_n 3, 1) := by decide +kernel
theorem dX7_search_12 : decode cX7_search 12 = .ok (.putfield 89, 3) := by decide +kernel
theorem dX7_search_15 : decode cX7_search 15 = .ok (.aload_n 0, 1) := by decide +kernel
theorem dX7_search_16 : decode cX7_search 16 = .ok (.iconst (-1), 1) := by decide +kernel
theorem dX7_search_17 : decode cX7_search 17 = .ok (.putfield 92, 3) := by decide +kernel
theorem dX7_search_20 : decode cX7_search 20 = .ok (.aload_n 0, 1) := by decide +kernel
theorem dX7_search_21 : decode cX7_search 21 = .ok (.iconst 0, 1) := by decide +kernel
theorem dX7_search_22 : decode cX7_search 22 = .ok (.putfield 95, 3) := by decide +kernel
theorem dX7_search_25 : decode cX7_search 25 = .ok (.aload_n 0, 1) := by decide +kernel
theorem dX7_search_26 : decode cX7_search 26 = .ok (.iconst 0, 1) := by decide +kernel
theorem dX7_search_27 : decode cX7_search 27 = .ok (.putfield 98, 3) := by decide +kernel
theorem dX7_search_30 : decode cX7_search 30 = .ok (.aload_n 0, 1) := by decide +kernel
theorem dX7_search_31 : decode cX7_search 31 = .ok (.iconst 0, 1) := by decide +kernel
theorem dX7_search_32 : decode cX7_search 32 = .ok (.putfield 101, 3) := by decide +kernel
theorem dX7_search_35 : decode cX7_search 35 = .ok (.aload_n 0, 1) := by decide +kernel
theorem dX7_search_36 : decode cX7_search 36 = .ok (.iconst 0, 1) := by decide +kernel
theorem dX7_search_37 : decode cX7_search 37 = .ok (.iconst 0, 1) := by decide +kernel
theorem dX7_search_38 : decode cX7_search 38 = .ok (.iconst 0, 1) := by decide +kernel
theorem dX7_search_39 : decode cX7_search 39 = .ok (.iconst 0, 1) := by decide +kernel
theorem dX7_search_40 : decode cX7_search 40 = .ok (.iconst 0, 1) := by decide +kernel
theorem dX7_search_41 : decode cX7_search 41 = .ok (.invokestatic 104, 3) := by decide +kernel
theorem dX7_search_44 : decode cX7_search 44 = .ok (.return_, 1) := by decide +kernel
theorem dX7_descend_0 : decode cX7_descend 0 = .ok (.iload_n 1, 1) := by decide +kernel
theorem dX7_descend_1 : decode cX7_descend 1 = .ok (.aload_n 0, 1) := by decide +kernel
theorem dX7_descend_2 : decode cX7_descend 2 = .ok (.getfield 26, 3) := by decide +kernel
theorem dX7_descend_5 : decode cX7_descend 5 = .ok (.getfield 50, 3) := by decide +kernel
theorem dX7_descend_8 : decode cX7_descend 8 = .ok (.if_icmp .ge 9, 3) := by decide +kernel
theorem dX7_descend_11 : decode cX7_descend 11 = .ok (.iload_n 1, 1) := by decide +kernel
theorem dX7_descend_12 : decode cX7_descend 12 = .ok (.bipush 6, 2) := by decide +kernel
theorem dX7_descend_14 : decode cX7_descend 14 = .ok (.if_icmp .lt 14, 3) := by decide +kernel
theorem dX7_descend_17 : decode cX7_descend 17 = .ok (.aload_n 0, 1) := by decide +kernel
theorem dX7_descend_18 : decode cX7_descend 18 = .ok (.iload_n 2, 1) := by decide +kernel
theorem dX7_descend_19 : decode cX7_descend 19 = .ok (.iload_n 3, 1) := by decide +kernel
theorem dX7_descend_20 : decode cX7_descend 20 = .ok (.iload 4, 2) := by decide +kernel
theorem dX7_descend_22 : decode cX7_descend 22 = .ok (.iload 5, 2) := by decide +kernel
theorem dX7_descend_24 : decode cX7_descend 24 = .ok (.invokevirtual 108, 3) := by decide +kernel
theorem dX7_descend_27 : decode cX7_descend 27 = .ok (.return_, 1) := by decide +kernel
theorem dX7_descend_28 : decode cX7_descend 28 = .ok (.iload_n 2, 1) := by decide +kernel
theorem dX7_descend_29 : decode cX7_descend 29 = .ok (.aload_n 0, 1) := by decide +kernel
theorem dX7_descend_30 : decode cX7_descend 30 = .ok (.getfield 23, 3) := by decide +kernel
theorem dX7_descend_33 : decode cX7_descend 33 = .ok (.iload_n 1, 1) := by decide +kernel
theorem dX7_descend_34 : decode cX7_descend 34 = .ok (.iaload, 1) := by decide +kernel
theorem dX7_descend_35 : decode cX7_descend 35 = .ok (.iadd, 1) := by decide +kernel
theorem dX7_descend_36 : decode cX7_descend 36 = .ok (.aload_n 0, 1) := by decide +kernel
theorem dX7_descend_37 : decode cX7_descend 37 = .ok (.getfield 92, 3) := by decide +kernel
theorem dX7_descend_40 : decode cX7_descend 40 = .ok (.if_icmp .ge 4, 3) := by decide +kernel
theorem dX7_descend_43 : decode cX7_descend 43 = .ok (.return_, 1) := by decide +kernel
theorem dX7_descend_44 : decode cX7_descend 44 = .ok (.iconst 3, 1) := by decide +kernel
theorem dX7_descend_45 : decode cX7_descend 45 = .ok (.istore 6, 2) := by decide +kernel
theorem dX7_descend_47 : decode cX7_descend 47 = .ok (.iload 6, 2) := by decide +kernel
theorem dX7_descend_49 : decode cX7_descend 49 = .ok (.ifCond .lt 77, 3) := by decide +kernel
theorem dX7_descend_52 : decode cX7_descend 52 = .ok (.iload_n 3, 1) := by decide +kernel
theorem dX7_descend_53 : decode cX7_descend 53 = .ok (.iload 6, 2) := by decide +kernel
theorem dX7_descend_55 : decode cX7_descend 55 = .ok (.aload_n 0, 1) := by decide +kernel
theorem dX7_descend_56 : decode cX7_descend 56 = .ok (.getfield 9, 3) := by decide +kernel
theorem dX7_descend_59 : decode cX7_descend 59 = .ok (.iload_n 1, 1) := by decide +kernel
theorem dX7_descend_60 : decode cX7_descend 60 = .ok (.iaload, 1) := by decide +kernel
theorem dX7_descend_61 : decode cX7_descend 61 = .ok (.imul, 1) := by decide +kernel
theorem dX7_descend_62 : decode cX7_descend 62 = .ok (.iadd, 1) := by decide +kernel
theorem dX7_descend_63 : decode cX7_descend 63 = .ok (.istore 7, 2) := by decide +kernel
theorem dX7_descend_65 : decode cX7_descend 65 = .ok (.iload 4, 2) := by decide +kernel
theorem dX7_descend_67 : decode cX7_descend 67 = .ok (.iload 6, 2) := by decide +kernel
theorem dX7_descend_69 : decode cX7_descend 69 = .ok (.aload_n 0, 1) := by decide +kernel
theorem dX7_descend_70 : decode cX7_descend 70 = .ok (.getfield 15, 3) := by decide +kernel
theorem dX7_descend_73 : decode cX7_descend 73 = .ok (.iload_n 1, 1) := by decide +kernel
theorem dX7_descend_74 : decode cX7_descend 74 = .ok (.iaload, 1) := by decide +kernel
theorem dX7_descend_75 : decode cX7_descend 75 = .ok (.imul, 1) := by decide +kernel
theorem dX7_descend_76 : decode cX7_descend 76 = .ok (.iadd, 1) := by decide +kernel
theorem dX7_descend_77 : decode cX7_descend 77 = .ok (.istore 8, 2) := by decide +kernel
theorem dX7_descend_79 : decode cX7_descend 79 = .ok (.aload_n 0, 1) := by decide +kernel
theorem dX7_descend_80 : decode cX7_descend 80 = .ok (.iload 7, 2) := by decide +kernel
theorem dX7_descend_82 : decode cX7_descend 82 = .ok (.iload 8, 2) := by decide +kernel
theorem dX7_descend_84 : decode cX7_descend 84 = .ok (.invokevirtual 112, 3) := by decide +kernel
theorem dX7_descend_87 : decode cX7_descend 87 = .ok (.ifCond .eq 33, 3) := by decide +kernel
theorem dX7_descend_90 : decode cX7_descend 90 = .ok (.aload_n 0, 1) := by decide +kernel
theorem dX7_descend_91 : decode cX7_descend 91 = .ok (.iload_n 1, 1) := by decide +kernel
theorem dX7_descend_92 : decode cX7_descend 92 = .ok (.iconst 1, 1) := by decide +kernel
theorem dX7_descend_93 : decode cX7_descend 93 = .ok (.iadd, 1) := by decide +kernel
theorem dX7_descend_94 : decode cX7_descend 94 = .ok (.iload_n 2, 1) := by decide +kernel
theorem dX7_descend_95 : decode cX7_descend 95 = .ok (.aload_n 0, 1) := by decide +kernel
theorem dX7_descend_96 : decode cX7_descend 96 = .ok (.getfield 20, 3) := by decide +kernel
theorem dX7_descend_99 : decode cX7_descend 99 = .ok (.iload_n 1, 1) := by decide +kernel
theorem dX7_descend_100 : decode cX7_descend 100 = .ok (.aaload, 1) := by decide +kernel
theorem dX7_descend_101 : decode cX7_descend 101 = .ok (.iload 6, 2) := by decide +kernel
theorem dX7_descend_103 : decode cX7_descend 103 = .ok (.iaload, 1) := by decide +kernel
theorem dX7_descend_104 : decode cX7_descend 104 = .ok (.iadd, 1) := by decide +kernel
theorem dX7_descend_105 : decode cX7_descend 105 = .ok (.iload 7, 2) := by decide +kernel
theorem dX7_descend_107 : decode cX7_descend 107 = .ok (.iload 8, 2) := by decide +kernel
theorem dX7_descend_109 : decode cX7_descend 109 = .ok (.iload 5, 2) := by decide +kernel
theorem dX7_descend_111 : decode cX7_descend 111 = .ok (.bipush 10, 2) := by decide +kernel
theorem dX7_descend_113 : decode cX7_descend 113 = .ok (.imul, 1) := by decide +kernel
theorem dX7_descend_114 : decode cX7_descend 114 = .ok (.iload 6, 2) := by decide +kernel
theorem dX7_descend_116 : decode cX7_descend 116 = .ok (.iadd, 1) := by decide +kernel
theorem dX7_descend_117 : decode cX7_descend 117 = .ok (.invokestatic 104, 3) := by decide +kernel
theorem dX7_descend_120 : decode cX7_descend 120 = .ok (.iinc 6 (-1), 3) := by decide +kernel
theorem dX7_descend_123 : decode cX7_descend 123 = .ok (.goto (-76), 3) := by decide +kernel
theorem dX7_descend_126 : decode cX7_descend 126 = .ok (.return_, 1) := by decide +kernel
theorem dX7_isPayable_0 : decode cX7_isPayable 0 = .ok (.iload_n 2, 1) := by decide +kernel
theorem dX7_isPayable_1 : decode cX7_isPayable 1 = .ok (.aload_n 0, 1) := by decide +kernel
theorem dX7_isPayable_2 : decode cX7_isPayable 2 = .ok (.getfield 86, 3) := by decide +kernel
theorem dX7_isPayable_5 : decode cX7_isPayable 5 = .ok (.if_icmp .le 12, 3) := by decide +kernel
theorem dX7_isPayable_8 : decode cX7_isPayable 8 = .ok (.iload_n 2, 1) := by decide +kernel
theorem dX7_isPayable_9 : decode cX7_isPayable 9 = .ok (.aload_n 0, 1) := by decide +kernel
theorem dX7_isPayable_10 : decode cX7_isPayable 10 = .ok (.getfield 86, 3) := by decide +kernel
theorem dX7_isPayable_13 : decode cX7_isPayable 13 = .ok (.isub, 1) := by decide +kernel
theorem dX7_isPayable_14 : decode cX7_isPayable 14 = .ok (.goto 4, 3) := by decide +kernel
theorem dX7_isPayable_17 : decode cX7_isPayable 17 = .ok (.iconst 0, 1) := by decide +kernel
theorem dX7_isPayable_18 : decode cX7_isPayable 18 = .ok (.istore_n 3, 1) := by decide +kernel
theorem dX7_isPayable_19 : decode cX7_isPayable 19 = .ok (.iload_n 1, 1) := by decide +kernel
theorem dX7_isPayable_20 : decode cX7_isPayable 20 = .ok (.aload_n 0, 1) := by decide +kernel
theorem dX7_isPayable_21 : decode cX7_isPayable 21 = .ok (.getfield 89, 3) := by decide +kernel
theorem dX7_isPayable_24 : decode cX7_isPayable 24 = .ok (.iload_n 3, 1) := by decide +kernel
theorem dX7_isPayable_25 : decode cX7_isPayable 25 = .ok (.imul, 1) := by decide +kernel
theorem dX7_isPayable_26 : decode cX7_isPayable 26 = .ok (.iadd, 1) := by decide +kernel
theorem dX7_isPayable_27 : decode cX7_isPayable 27 = .ok (.aload_n 0, 1) := by decide +kernel
theorem dX7_isPayable_28 : decode cX7_isPayable 28 = .ok (.getfield 83, 3) := by decide +kernel
theorem dX7_isPayable_31 : decode cX7_isPayable 31 = .ok (.if_icmp .gt 7, 3) := by decide +kernel
theorem dX7_isPayable_34 : decode cX7_isPayable 34 = .ok (.iconst 1, 1) := by decide +kernel
theorem dX7_isPayable_35 : decode cX7_isPayable 35 = .ok (.goto 4, 3) := by decide +kernel
theorem dX7_isPayable_38 : decode cX7_isPayable 38 = .ok (.iconst 0, 1) := by decide +kernel
theorem dX7_isPayable_39 : decode cX7_isPayable 39 = .ok (.ireturn, 1) := by decide +kernel
theorem dX7_compare_0 : decode cX7_compare 0 = .ok (.iload_n 1, 1) := by decide +kernel
theorem dX7_compare_1 : decode cX7_compare 1 = .ok (.aload_n 0, 1) := by decide +kernel
theorem dX7_compare_2 : decode cX7_compare 2 = .ok (.getfield 92, 3) := by decide +kernel
theorem dX7_compare_5 : decode cX7_compare 5 = .ok (.if_icmp .le 7, 3) := by decide +kernel
theorem dX7_compare_8 : decode cX7_compare 8 = .ok (.iconst 1, 1) := by decide +kernel
theorem dX7_compare_9 : decode cX7_compare 9 = .ok (.goto 4, 3) := by decide +kernel
theorem dX7_compare_12 : decode cX7_compare 12 = .ok (.iconst 0, 1) := by decide +kernel
theorem dX7_compare_13 : decode cX7_compare 13 = .ok (.istore 5, 2) := by decide +kernel
theorem dX7_compare_15 : decode cX7_compare 15 = .ok (.iload_n 1, 1) := by decide +kernel
theorem dX7_compare_16 : decode cX7_compare 16 = .ok (.aload_n 0, 1) := by decide +kernel
theorem dX7_compare_17 : decode cX7_compare 17 = .ok (.getfield 92, 3) := by decide +kernel
theorem dX7_compare_20 : decode cX7_compare 20 = .ok (.if_icmp .ne 34, 3) := by decide +kernel
theorem dX7_compare_23 : decode cX7_compare 23 = .ok (.iload_n 2, 1) := by decide +kernel
theorem dX7_compare_24 : decode cX7_compare 24 = .ok (.aload_n 0, 1) := by decide +kernel
theorem dX7_compare_25 : decode cX7_compare 25 = .ok (.getfield 95, 3) := by decide +kernel
theorem dX7_compare_28 : decode cX7_compare 28 = .ok (.if_icmp .lt 19, 3) := by decide +kernel
theorem dX7_compare_31 : decode cX7_compare 31 = .ok (.iload_n 2, 1) := by decide +kernel
theorem dX7_compare_32 : decode cX7_compare 32 = .ok (.aload_n 0, 1) := by decide +kernel
theorem dX7_compare_33 : decode cX7_compare 33 = .ok (.getfield 95, 3) := by decide +kernel
theorem dX7_compare_36 : decode cX7_compare 36 = .ok (.if_icmp .ne 15, 3) := by decide +kernel
theorem dX7_compare_39 : decode cX7_compare 39 = .ok (.iload_n 3, 1) := by decide +kernel
theorem dX7_compare_40 : decode cX7_compare 40 = .ok (.aload_n 0, 1) := by decide +kernel
theorem dX7_compare_41 : decode cX7_compare 41 = .ok (.getfield 98, 3) := by decide +kernel
theorem dX7_compare_44 : decode cX7_compare 44 = .ok (.if_icmp .gt 7, 3) := by decide +kernel
theorem dX7_compare_47 : decode cX7_compare 47 = .ok (.iconst 1, 1) := by decide +kernel
theorem dX7_compare_48 : decode cX7_compare 48 = .ok (.goto 4, 3) := by decide +kernel
theorem dX7_compare_51 : decode cX7_compare 51 = .ok (.iconst 0, 1) := by decide +kernel
theorem dX7_compare_52 : decode cX7_compare 52 = .ok (.istore 5, 2) := by decide +kernel
theorem dX7_compare_54 : decode cX7_compare 54 = .ok (.iload 5, 2) := by decide +kernel
theorem dX7_compare_56 : decode cX7_compare 56 = .ok (.ifCond .eq 24, 3) := by decide +kernel
theorem dX7_compare_59 : decode cX7_compare 59 = .ok (.aload_n 0, 1) := by decide +kernel
theorem dX7_compare_60 : decode cX7_compare 60 = .ok (.iload_n 1, 1) := by decide +kernel
theorem dX7_compare_61 : decode cX7_compare 61 = .ok (.putfield 92, 3) := by decide +kernel
theorem dX7_compare_64 : decode cX7_compare 64 = .ok (.aload_n 0, 1) := by decide +kernel
theorem dX7_compare_65 : decode cX7_compare 65 = .ok (.iload_n 2, 1) := by decide +kernel
theorem dX7_compare_66 : decode cX7_compare 66 = .ok (.putfield 95, 3) := by decide +kernel
theorem dX7_compare_69 : decode cX7_compare 69 = .ok (.aload_n 0, 1) := by decide +kernel
theorem dX7_compare_70 : decode cX7_compare 70 = .ok (.iload_n 3, 1) := by decide +kernel
theorem dX7_compare_71 : decode cX7_compare 71 = .ok (.putfield 98, 3) := by decide +kernel
theorem dX7_compare_74 : decode cX7_compare 74 = .ok (.aload_n 0, 1) := by decide +kernel
theorem dX7_compare_75 : decode cX7_compare 75 = .ok (.iload 4, 2) := by decide +kernel
theorem dX7_compare_77 : decode cX7_compare 77 = .ok (.putfield 101, 3) := by decide +kernel
theorem dX7_compare_80 : decode cX7_compare 80 = .ok (.return_, 1) := by decide +kernel
theorem dX8_init_0 : decode cX8_init 0 = .ok (.aload_n 0, 1) := by decide +kernel
theorem dX8_init_1 : decode cX8_init 1 = .ok (.invokespecial 3, 3) := by decide +kernel
theorem dX8_init_4 : decode cX8_init 4 = .ok (.aload_n 0, 1) := by decide +kernel
theorem dX8_init_5 : decode cX8_init 5 = .ok (.iconst 4, 1) := by decide +kernel
theorem dX8_init_6 : decode cX8_init 6 = .ok (.bipush 121, 2) := by decide +kernel
theorem dX8_init_8 : decode cX8_init 8 = .ok (.multianewarray 9 2, 4) := by decide +kernel
theorem dX8_init_12 : decode cX8_init 12 = .ok (.putfield 11, 3) := by decide +kernel
theorem dX8_init_15 : decode cX8_init 15 = .ok (.aload_n 0, 1) := by decide +kernel
theorem dX8_init_16 : decode cX8_init 16 = .ok (.iconst 4, 1) := by decide +kernel
theorem dX8_init_17 : decode cX8_init 17 = .ok (.newarray .int, 2) := by decide +kernel
theorem dX8_init_19 : decode cX8_init 19 = .ok (.putfield 16, 3) := by decide +kernel
theorem dX8_init_22 : decode cX8_init 22 = .ok (.aload_n 0, 1) := by decide +kernel
theorem dX8_init_23 : decode cX8_init 23 = .ok (.sipush 128, 3) := by decide +kernel
theorem dX8_init_26 : decode cX8_init 26 = .ok (.newarray .int, 2) := by decide +kernel
theorem dX8_init_28 : decode cX8_init 28 = .ok (.putfield 20, 3) := by decide +kernel
theorem dX8_init_31 : decode cX8_init 31 = .ok (.aload_n 0, 1) := by decide +kernel
theorem dX8_init_32 : decode cX8_init 32 = .ok (.bipush 121, 2) := by decide +kernel
theorem dX8_init_34 : decode cX8_init 34 = .ok (.newarray .int, 2) := by decide +kernel
theorem dX8_init_36 : decode cX8_init 36 = .ok (.putfield 23, 3) := by decide +kernel
theorem dX8_init_39 : decode cX8_init 39 = .ok (.return_, 1) := by decide +kernel
theorem dX8_known_0 : decode cX8_known 0 = .ok (.aload_n 0, 1) := by decide +kernel
theorem dX8_known_1 : decode cX8_known 1 = .ok (.getfield 26, 3) := by decide +kernel
theorem dX8_known_4 : decode cX8_known 4 = .ok (.ireturn, 1) := by decide +kernel
theorem dX8_learn_0 : decode cX8_learn 0 = .ok (.aload_n 0, 1) := by decide +kernel
theorem dX8_learn_1 : decode cX8_learn 1 = .ok (.getfield 26, 3) := by decide +kernel
theorem dX8_learn_4 : decode cX8_learn 4 = .ok (.iconst 4, 1) := by decide +kernel
theorem dX8_learn_5 : decode cX8_learn 5 = .ok (.if_icmp .lt 6, 3) := by decide +kernel
theorem dX8_learn_8 : decode cX8_learn 8 = .ok (.bipush (-3), 2) := by decide +kernel
theorem dX8_learn_10 : decode cX8_learn 10 = .ok (.ireturn, 1) := by decide +kernel
theorem dX8_learn_11 : decode cX8_learn 11 = .ok (.aload_n 1, 1) := by decide +kernel
theorem dX8_learn_12 : decode cX8_learn 12 = .ok (.invokevirtual 30, 3) := by decide +kernel
theorem dX8_learn_15 : decode cX8_learn 15 = .ok (.bipush 121, 2) := by decide +kernel
theorem dX8_learn_17 : decode cX8_learn 17 = .ok (.invokestatic 36, 3) := by decide +kernel
theorem dX8_learn_20 : decode cX8_learn 20 = .ok (.istore_n 2, 1) := by decide +kernel
theorem dX8_learn_21 : decode cX8_learn 21 = .ok (.iconst 0, 1) := by decide +kernel
theorem dX8_learn_22 : decode cX8_learn 22 = .ok (.istore_n 3, 1) := by decide +kernel
theorem dX8_learn_23 : decode cX8_learn 23 = .ok (.iload_n 3, 1) := by decide +kernel
theorem dX8_learn_24 : decode cX8_learn 24 = .ok (.iload_n 2, 1) := by decide +kernel
theorem dX8_learn_25 : decode cX8_learn 25 = .ok (.if_icmp .ge 25, 3) := by decide +kernel
theorem dX8_learn_28 : decode cX8_learn 28 = .ok (.aload_n 0, 1) := by decide +kernel
theorem dX8_learn_29 : decode cX8_learn 29 = .ok (.getfield 11, 3) := by decide +kernel
theorem dX8_learn_32 : decode cX8_learn 32 = .ok (.aload_n 0, 1) := by decide +kernel
theorem dX8_learn_33 : decode cX8_learn 33 = .ok (.getfield 26, 3) := by decide +kernel
theorem dX8_learn_36 : decode cX8_learn 36 = .ok (.aaload, 1) := by decide +kernel
theorem dX8_learn_37 : decode cX8_learn 37 = .ok (.iload_n 3, 1) := by decide +kernel
theorem dX8_learn_38 : decode cX8_learn 38 = .ok (.aload_n 1, 1) := by decide +kernel
theorem dX8_learn_39 : decode cX8_learn 39 = .ok (.iload_n 3, 1) := by decide +kernel
theorem dX8_learn_40 : decode cX8_learn 40 = .ok (.invokevirtual 42, 3) := by decide +kernel
theorem dX8_learn_43 : decode cX8_learn 43 = .ok (.iastore, 1) := by decide +kernel
theorem dX8_learn_44 : decode cX8_learn 44 = .ok (.iinc 3 1, 3) := by decide +kernel
theorem dX8_learn_47 : decode cX8_learn 47 = .ok (.goto (-24), 3) := by decide +kernel
theorem dX8_learn_50 : decode cX8_learn 50 = .ok (.aload_n 0, 1) := by decide +kernel
theorem dX8_learn_51 : decode cX8_learn 51 = .ok (.getfield 16, 3) := by decide +kernel
theorem dX8_learn_54 : decode cX8_learn 54 = .ok (.aload_n 0, 1) := by decide +kernel
theorem dX8_learn_55 : decode cX8_learn 55 = .ok (.getfield 26, 3) := by decide +kernel
theorem dX8_learn_58 : decode cX8_learn 58 = .ok (.iload_n 2, 1) := by decide +kernel
theorem dX8_learn_59 : decode cX8_learn 59 = .ok (.iastore, 1) := by decide +kernel
theorem dX8_learn_60 : decode cX8_learn 60 = .ok (.aload_n 0, 1) := by decide +kernel
theorem dX8_learn_61 : decode cX8_learn 61 = .ok (.dup, 1) := by decide +kernel
theorem dX8_learn_62 : decode cX8_learn 62 = .ok (.getfield 26, 3) := by decide +kernel
theorem dX8_learn_65 : decode cX8_learn 65 = .ok (.dup_x1, 1) := by decide +kernel
theorem dX8_learn_66 : decode cX8_learn 66 = .ok (.iconst 1, 1) := by decide +kernel
theorem dX8_learn_67 : decode cX8_learn 67 = .ok (.iadd, 1) := by decide +kernel
theorem dX8_learn_68 : decode cX8_learn 68 = .ok (.putfield 26, 3) := by decide +kernel
theorem dX8_learn_71 : decode cX8_learn 71 = .ok (.ireturn, 1) := by decide +kernel
theorem dX8_name_0 : decode cX8_name 0 = .ok (.iload_n 1, 1) := by decide +kernel
theorem dX8_name_1 : decode cX8_name 1 = .ok (.sipush 128, 3) := by decide +kernel
theorem dX8_name_4 : decode cX8_name 4 = .ok (.if_icmp .ge 10, 3) := by decide +kernel
theorem dX8_name_7 : decode cX8_name 7 = .ok (.aload_n 0, 1) := by decide +kernel
theorem dX8_name_8 : decode cX8_name 8 = .ok (.getfield 20, 3) := by decide +kernel
theorem dX8_name_11 : decode cX8_name 11 = .ok (.iload_n 1, 1) := by decide +kernel
theorem dX8_name_12 : decode cX8_name 12 = .ok (.iload_n 2, 1) := by decide +kernel
theorem dX8_name_13 : decode cX8_name 13 = .ok (.iastore, 1) := by decide +kernel
theorem dX8_name_14 : decode cX8_name 14 = .ok (.return_, 1) := by decide +kernel
theorem dX8_workOut_0 : decode cX8_workOut 0 = .ok (.iload_n 1, 1) := by decide +kernel
theorem dX8_workOut_1 : decode cX8_workOut 1 = .ok (.iconst 0, 1) := by decide +kernel
theorem dX8_workOut_2 : decode cX8_workOut 2 = .ok (.aload_n 0, 1) := by decide +kernel
theorem dX8_workOut_3 : decode cX8_workOut 3 = .ok (.getfield 26, 3) := by decide +kernel
theorem dX8_workOut_6 : decode cX8_workOut 6 = .ok (.iconst 1, 1) := by decide +kernel
theorem dX8_workOut_7 : decode cX8_workOut 7 = .ok (.isub, 1) := by decide +kernel
theorem dX8_workOut_8 : decode cX8_workOut 8 = .ok (.invokestatic 46, 3) := by decide +kernel
theorem dX8_workOut_11 : decode cX8_workOut 11 = .ok (.ifCond .ne 5, 3) := by decide +kernel
theorem dX8_workOut_14 : decode cX8_workOut 14 = .ok (.iconst 0, 1) := by decide +kernel
theorem dX8_workOut_15 : decode cX8_workOut 15 = .ok (.ireturn, 1) := by decide +kernel
theorem dX8_workOut_16 : decode cX8_workOut 16 = .ok (.aload_n 0, 1) := by decide +kernel
theorem dX8_workOut_17 : decode cX8_workOut 17 = .ok (.iconst 0, 1) := by decide +kernel
theorem dX8_workOut_18 : decode cX8_workOut 18 = .ok (.putfield 50, 3) := by decide +kernel
theorem dX8_workOut_21 : decode cX8_workOut 21 = .ok (.iconst 0, 1) := by decide +kernel
theorem dX8_workOut_22 : decode cX8_workOut 22 = .ok (.istore_n 2, 1) := by decide +kernel
theorem dX8_workOut_23 : decode cX8_workOut 23 = .ok (.iconst 0, 1) := by decide +kernel
theorem dX8_workOut_24 : decode cX8_workOut 24 = .ok (.istore_n 3, 1) := by decide +kernel
theorem dX8_workOut_25 : decode cX8_workOut 25 = .ok (.iload_n 3, 1) := by decide +kernel
theorem dX8_workOut_26 : decode cX8_workOut 26 = .ok (.aload_n 0, 1) := by decide +kernel
theorem dX8_workOut_27 : decode cX8_workOut 27 = .ok (.getfield 16, 3) := by decide +kernel
theorem dX8_workOut_30 : decode cX8_workOut 30 = .ok (.iload_n 1, 1) := by decide +kernel
theorem dX8_workOut_31 : decode cX8_workOut 31 = .ok (.iaload, 1) := by decide +kernel
theorem dX8_workOut_32 : decode cX8_workOut 32 = .ok (.if_icmp .ge 73, 3) := by decide +kernel
theorem dX8_workOut_35 : decode cX8_workOut 35 = .ok (.aload_n 0, 1) := by decide +kernel
theorem dX8_workOut_36 : decode cX8_workOut 36 = .ok (.getfield 11, 3) := by decide +kernel
theorem dX8_workOut_39 : decode cX8_workOut 39 = .ok (.iload_n 1, 1) := by decide +kernel
theorem dX8_workOut_40 : decode cX8_workOut 40 = .ok (.aaload, 1) := by decide +kernel
theorem dX8_workOut_41 : decode cX8_workOut 41 = .ok (.iload_n 3, 1) := by decide +kernel
theorem dX8_workOut_42 : decode cX8_workOut 42 = .ok (.iaload, 1) := by decide +kernel
theorem dX8_workOut_43 : decode cX8_workOut 43 = .ok (.istore 4, 2) := by decide +kernel
theorem dX8_workOut_45 : decode cX8_workOut 45 = .ok (.iload 4, 2) := by decide +kernel
theorem dX8_workOut_47 : decode cX8_workOut 47 = .ok (.bipush (-59), 2) := by decide +kernel
theorem dX8_workOut_49 : decode cX8_workOut 49 = .ok (.if_icmp .ne 17, 3) := by decide +kernel
theorem dX8_workOut_52 : decode cX8_workOut 52 = .ok (.iload_n 2, 1) := by decide +kernel
theorem dX8_workOut_53 : decode cX8_workOut 53 = .ok (.ifCond .ne 8, 3) := by decide +kernel
theorem dX8_workOut_56 : decode cX8_workOut 56 = .ok (.aload_n 0, 1) := by decide +kernel
theorem dX8_workOut_57 : decode cX8_workOut 57 = .ok (.invokevirtual 53, 3) := by decide +kernel
theorem dX8_workOut_60 : decode cX8_workOut 60 = .ok (.ireturn, 1) := by decide +kernel
theorem dX8_workOut_61 : decode cX8_workOut 61 = .ok (.iconst 0, 1) := by decide +kernel
theorem dX8_workOut_62 : decode cX8_workOut 62 = .ok (.istore_n 2, 1) := by decide +kernel
theorem dX8_workOut_63 : decode cX8_workOut 63 = .ok (.goto 36, 3) := by decide +kernel
theorem dX8_workOut_66 : decode cX8_workOut 66 = .ok (.iload 4, 2) := by decide +kernel
theorem dX8_workOut_68 : decode cX8_workOut 68 = .ok (.bipush (-63), 2) := by decide +kernel
theorem dX8_workOut_70 : decode cX8_workOut 70 = .ok (.if_icmp .ne 19, 3) := by decide +kernel
theorem dX8_workOut_73 : decode cX8_workOut 73 = .ok (.aload_n 0, 1) := by decide +kernel
theorem dX8_workOut_74 : decode cX8_workOut 74 = .ok (.invokevirtual 53, 3) := by decide +kernel
theorem dX8_workOut_77 : decode cX8_workOut 77 = .ok (.ifCond .ne 7, 3) := by decide +kernel
theorem dX8_workOut_80 : decode cX8_workOut 80 = .ok (.iconst 1, 1) := by decide +kernel
theorem dX8_workOut_81 : decode cX8_workOut 81 = .ok (.goto 4, 3) := by decide +kernel
theorem dX8_workOut_84 : decode cX8_workOut 84 = .ok (.iconst 0, 1) := by decide +kernel
theorem dX8_workOut_85 : decode cX8_workOut 85 = .ok (.istore_n 2, 1) := by decide +kernel
theorem dX8_workOut_86 : decode cX8_workOut 86 = .ok (.goto 13, 3) := by decide +kernel
theorem dX8_workOut_89 : decode cX8_workOut 89 = .ok (.iload_n 2, 1) := by decide +kernel
theorem dX8_workOut_90 : decode cX8_workOut 90 = .ok (.ifCond .ne 9, 3) := by decide +kernel
theorem dX8_workOut_93 : decode cX8_workOut 93 = .ok (.aload_n 0, 1) := by decide +kernel
theorem dX8_workOut_94 : decode cX8_workOut 94 = .ok (.iload 4, 2) := by decide +kernel
theorem dX8_workOut_96 : decode cX8_workOut 96 = .ok (.invokevirtual 56, 3) := by decide +kernel
theorem dX8_workOut_99 : decode cX8_workOut 99 = .ok (.iinc 3 1, 3) := by decide +kernel
theorem dX8_workOut_102 : decode cX8_workOut 102 = .ok (.goto (-77), 3) := by decide +kernel
theorem dX8_workOut_105 : decode cX8_workOut 105 = .ok (.iconst 0, 1) := by decide +kernel
theorem dX8_workOut_106 : decode cX8_workOut 106 = .ok (.ireturn, 1) := by decide +kernel
theorem dX8_doStep_0 : decode cX8_doStep 0 = .ok (.iload_n 1, 1) := by decide +kernel
theorem dX8_doStep_1 : decode cX8_doStep 1 = .ok (.ifCond .lt 11, 3) := by decide +kernel
theorem dX8_doStep_4 : decode cX8_doStep 4 = .ok (.aload_n 0, 1) := by decide +kernel
theorem dX8_doStep_5 : decode cX8_doStep 5 = .ok (.iload_n 1, 1) := by decide +kernel
theorem dX8_doStep_6 : decode cX8_doStep 6 = .ok (.invokevirtual 60, 3) := by decide +kernel
theorem dX8_doStep_9 : decode cX8_doStep 9 = .ok (.goto 87, 3) := by decide +kernel
theorem dX8_doStep_12 : decode cX8_doStep 12 = .ok (.iload_n 1, 1) := by decide +kernel
theorem dX8_doStep_13 : decode cX8_doStep 13 = .ok (.ineg, 1) := by decide +kernel
theorem dX8_doStep_14 : decode cX8_doStep 14 = .ok (.invokestatic 63, 3) := by decide +kernel
theorem dX8_doStep_17 : decode cX8_doStep 17 = .ok (.ifCond .eq 17, 3) := by decide +kernel
theorem dX8_doStep_20 : decode cX8_doStep 20 = .ok (.aload_n 0, 1) := by decide +kernel
theorem dX8_doStep_21 : decode cX8_doStep 21 = .ok (.aload_n 0, 1) := by decide +kernel
theorem dX8_doStep_22 : decode cX8_doStep 22 = .ok (.getfield 20, 3) := by decide +kernel
theorem dX8_doStep_25 : decode cX8_doStep 25 = .ok (.iload_n 1, 1) := by decide +kernel
theorem dX8_doStep_26 : decode cX8_doStep 26 = .ok (.ineg, 1) := by decide +kernel
theorem dX8_doStep_27 : decode cX8_doStep 27 = .ok (.iaload, 1) := by decide +kernel
theorem dX8_doStep_28 : decode cX8_doStep 28 = .ok (.invokevirtual 60, 3) := by decide +kernel
theorem dX8_doStep_31 : decode cX8_doStep 31 = .ok (.goto 65, 3) := by decide +kernel
theorem dX8_doStep_34 : decode cX8_doStep 34 = .ok (.iload_n 1, 1) := by decide +kernel
theorem dX8_doStep_35 : decode cX8_doStep 35 = .ok (.bipush (-33), 2) := by decide +kernel
theorem dX8_doStep_37 : decode cX8_doStep 37 = .ok (.if_icmp .ne 22, 3) := by decide +kernel
theorem dX8_doStep_40 : decode cX8_doStep 40 = .ok (.aload_n 0, 1) := by decide +kernel
theorem dX8_doStep_41 : decode cX8_doStep 41 = .ok (.aload_n 0, 1) := by decide +kernel
theorem dX8_doStep_42 : decode cX8_doStep 42 = .ok (.invokevirtual 53, 3) := by decide +kernel
theorem dX8_doStep_45 : decode cX8_doStep 45 = .ok (.ifCond .ne 7, 3) := by decide +kernel
theorem dX8_doStep_48 : decode cX8_doStep 48 = .ok (.iconst 1, 1) := by decide +kernel
theorem dX8_doStep_49 : decode cX8_doStep 49 = .ok (.goto 4, 3) := by decide +kernel
theorem dX8_doStep_52 : decode cX8_doStep 52 = .ok (.iconst 0, 1) := by decide +kernel
theorem dX8_doStep_53 : decode cX8_doStep 53 = .ok (.invokevirtual 60, 3) := by decide +kernel
theorem dX8_doStep_56 : decode cX8_doStep 56 = .ok (.goto 40, 3) := by decide +kernel
theorem dX8_doStep_59 : decode cX8_doStep 59 = .ok (.iload_n 1, 1) := by decide +kernel
theorem dX8_doStep_60 : decode cX8_doStep 60 = .ok (.bipush (-126), 2) := by decide +kernel
theorem dX8_doStep_62 : decode cX8_doStep 62 = .ok (.if_icmp .ne 15, 3) := by decide +kernel
theorem dX8_doStep_65 : decode cX8_doStep 65 = .ok (.aload_n 0, 1) := by decide +kernel
theorem dX8_doStep_66 : decode cX8_doStep 66 = .ok (.aload_n 0, 1) := by decide +kernel
theorem dX8_doStep_67 : decode cX8_doStep 67 = .ok (.invokevirtual 53, 3) := by decide +kernel
theorem dX8_doStep_70 : decode cX8_doStep 70 = .ok (.ineg, 1) := by decide +kernel
theorem dX8_doStep_71 : decode cX8_doStep 71 = .ok (.invokevirtual 60, 3) := by decide +kernel
theorem dX8_doStep_74 : decode cX8_doStep 74 = .ok (.goto 22, 3) := by decide +kernel
theorem dX8_doStep_77 : decode cX8_doStep 77 = .ok (.aload_n 0, 1) := by decide +kernel
theorem dX8_doStep_78 : decode cX8_doStep 78 = .ok (.invokevirtual 53, 3) := by decide +kernel
theorem dX8_doStep_81 : decode cX8_doStep 81 = .ok (.istore_n 2, 1) := by decide +kernel
theorem dX8_doStep_82 : decode cX8_doStep 82 = .ok (.aload_n 0, 1) := by decide +kernel
theorem dX8_doStep_83 : decode cX8_doStep 83 = .ok (.iload_n 1, 1) := by decide +kernel
theorem dX8_doStep_84 : decode cX8_doStep 84 = .ok (.ineg, 1) := by decide +kernel
theorem dX8_doStep_85 : decode cX8_doStep 85 = .ok (.aload_n 0, 1) := by decide +kernel
theorem dX8_doStep_86 : decode cX8_doStep 86 = .ok (.invokevirtual 53, 3) := by decide +kernel
theorem dX8_doStep_89 : decode cX8_doStep 89 = .ok (.iload_n 2, 1) := by decide +kernel
theorem dX8_doStep_90 : decode cX8_doStep 90 = .ok (.invokestatic 67, 3) := by decide +kernel
theorem dX8_doStep_93 : decode cX8_doStep 93 = .ok (.invokevirtual 60, 3) := by decide +kernel
theorem dX8_doStep_96 : decode cX8_doStep 96 = .ok (.return_, 1) := by decide +kernel
theorem dX8_joined_0 : decode cX8_joined 0 = .ok (.iload_n 0, 1) := by decide +kernel
theorem dX8_joined_1 : decode cX8_joined 1 = .ok (.lookupswitch 188 #[(37, 176), (38, 105), (42, 160), (43, 152), (45, 156), (47, 164), (60, 119), (61, 130), (62, 141), (124, 91)], 91) := by decide +kernel
theorem dX8_joined_92 : decode cX8_joined 92 = .ok (.iload_n 1, 1) := by decide +kernel
theorem dX8_joined_93 : decode cX8_joined 93 = .ok (.ifCond .ne 7, 3) := by decide +kernel
theorem dX8_joined_96 : decode cX8_joined 96 = .ok (.iload_n 2, 1) := by decide +kernel
theorem dX8_joined_97 : decode cX8_joined 97 = .ok (.ifCond .eq 7, 3) := by decide +kernel
theorem dX8_joined_100 : decode cX8_joined 100 = .ok (.iconst 1, 1) := by decide +kernel
theorem dX8_joined_101 : decode cX8_joined 101 = .ok (.goto 4, 3) := by decide +kernel
theorem dX8_joined_104 : decode cX8_joined 104 = .ok (.iconst 0, 1) := by decide +kernel
theorem dX8_joined_105 : decode cX8_joined 105 = .ok (.ireturn, 1) := by decide +kernel
theorem dX8_joined_106 : decode cX8_joined 106 = .ok (.iload_n 1, 1) := by decide +kernel
theorem dX8_joined_107 : decode cX8_joined 107 = .ok (.ifCond .eq 11, 3) := by decide +kernel
theorem dX8_joined_110 : decode cX8_joined 110 = .ok (.iload_n 2, 1) := by decide +kernel
theorem dX8_joined_111 : decode cX8_joined 111 = .ok (.ifCond .eq 7, 3) := by decide +kernel
theorem dX8_joined_114 : decode cX8_joined 114 = .ok (.iconst 1, 1) := by decide +kernel
theorem dX8_joined_115 : decode cX8_joined 115 = .ok (.goto 4, 3) := by decide +kernel
theorem dX8_joined_118 : decode cX8_joined 118 = .ok (.iconst 0, 1) := by decide +kernel
theorem dX8_joined_119 : decode cX8_joined 119 = .ok (.ireturn, 1) := by decide +kernel
theorem dX8_joined_120 : decode cX8_joined 120 = .ok (.iload_n 1, 1) := by decide +kernel
theorem dX8_joined_121 : decode cX8_joined 121 = .ok (.iload_n 2, 1) := by decide +kernel
theorem dX8_joined_122 : decode cX8_joined 122 = .ok (.if_icmp .ge 7, 3) := by decide +kernel
theorem dX8_joined_125 : decode cX8_joined 125 = .ok (.iconst 1, 1) := by decide +kernel
theorem dX8_joined_126 : decode cX8_joined 126 = .ok (.goto 4, 3) := by decide +kernel
theorem dX8_joined_129 : decode cX8_joined 129 = .ok (.iconst 0, 1) := by decide +kernel
theorem dX8_joined_130 : decode cX8_joined 130 = .ok (.ireturn, 1) := by decide +kernel
theorem dX8_joined_131 : decode cX8_joined 131 = .ok (.iload_n 1, 1) := by decide +kernel
theorem dX8_joined_132 : decode cX8_joined 132 = .ok (.iload_n 2, 1) := by decide +kernel
theorem dX8_joined_133 : decode cX8_joined 133 = .ok (.if_icmp .ne 7, 3) := by decide +kernel
theorem dX8_joined_136 : decode cX8_joined 136 = .ok (.iconst 1, 1) := by decide +kernel
theorem dX8_joined_137 : decode cX8_joined 137 = .ok (.goto 4, 3) := by decide +kernel
theorem dX8_joined_140 : decode cX8_joined 140 = .ok (.iconst 0, 1) := by decide +kernel
theorem dX8_joined_141 : decode cX8_joined 141 = .ok (.ireturn, 1) := by decide +kernel
theorem dX8_joined_142 : decode cX8_joined 142 = .ok (.iload_n 1, 1) := by decide +kernel
theorem dX8_joined_143 : decode cX8_joined 143 = .ok (.iload_n 2, 1) := by decide +kernel
theorem dX8_joined_144 : decode cX8_joined 144 = .ok (.if_icmp .le 7, 3) := by decide +kernel
theorem dX8_joined_147 : decode cX8_joined 147 = .ok (.iconst 1, 1) := by decide +kernel
theorem dX8_joined_148 : decode cX8_joined 148 = .ok (.goto 4, 3) := by decide +kernel
theorem dX8_joined_151 : decode cX8_joined 151 = .ok (.iconst 0, 1) := by decide +kernel
theorem dX8_joined_152 : decode cX8_joined 152 = .ok (.ireturn, 1) := by decide +kernel
theorem dX8_joined_153 : decode cX8_joined 153 = .ok (.iload_n 1, 1) := by decide +kernel
theorem dX8_joined_154 : decode cX8_joined 154 = .ok (.iload_n 2, 1) := by decide +kernel
theorem dX8_joined_155 : decode cX8_joined 155 = .ok (.iadd, 1) := by decide +kernel
theorem dX8_joined_156 : decode cX8_joined 156 = .ok (.ireturn, 1) := by decide +kernel
theorem dX8_joined_157 : decode cX8_joined 157 = .ok (.iload_n 1, 1) := by decide +kernel
theorem dX8_joined_158 : decode cX8_joined 158 = .ok (.iload_n 2, 1) := by decide +kernel
theorem dX8_joined_159 : decode cX8_joined 159 = .ok (.isub, 1) := by decide +kernel
theorem dX8_joined_160 : decode cX8_joined 160 = .ok (.ireturn, 1) := by decide +kernel
theorem dX8_joined_161 : decode cX8_joined 161 = .ok (.iload_n 1, 1) := by decide +kernel
theorem dX8_joined_162 : decode cX8_joined 162 = .ok (.iload_n 2, 1) := by decide +kernel
theorem dX8_joined_163 : decode cX8_joined 163 = .ok (.imul, 1) := by decide +kernel
theorem dX8_joined_164 : decode cX8_joined 164 = .ok (.ireturn, 1) := by decide +kernel
theorem dX8_joined_165 : decode cX8_joined 165 = .ok (.iload_n 2, 1) := by decide +kernel
theorem dX8_joined_166 : decode cX8_joined 166 = .ok (.ifCond .ne 7, 3) := by decide +kernel
theorem dX8_joined_169 : decode cX8_joined 169 = .ok (.iconst 0, 1) := by decide +kernel
theorem dX8_joined_170 : decode cX8_joined 170 = .ok (.goto 6, 3) := by decide +kernel
theorem dX8_joined_173 : decode cX8_joined 173 = .ok (.iload_n 1, 1) := by decide +kernel
theorem dX8_joined_174 : decode cX8_joined 174 = .ok (.iload_n 2, 1) := by decide +kernel
theorem dX8_joined_175 : decode cX8_joined 175 = .ok (.idiv, 1) := by decide +kernel
theorem dX8_joined_176 : decode cX8_joined 176 = .ok (.ireturn, 1) := by decide +kernel
theorem dX8_joined_177 : decode cX8_joined 177 = .ok (.iload_n 2, 1) := by decide +kernel
theorem dX8_joined_178 : decode cX8_joined 178 = .ok (.ifCond .ne 7, 3) := by decide +kernel
theorem dX8_joined_181 : decode cX8_joined 181 = .ok (.iconst 0, 1) := by decide +kernel
theorem dX8_joined_182 : decode cX8_joined 182 = .ok (.goto 6, 3) := by decide +kernel
theorem dX8_joined_185 : decode cX8_joined 185 = .ok (.iload_n 1, 1) := by decide +kernel
theorem dX8_joined_186 : decode cX8_joined 186 = .ok (.iload_n 2, 1) := by decide +kernel
theorem dX8_joined_187 : decode cX8_joined 187 = .ok (.irem, 1) := by decide +kernel
theorem dX8_joined_188 : decode cX8_joined 188 = .ok (.ireturn, 1) := by decide +kernel
theorem dX8_joined_189 : decode cX8_joined 189 = .ok (.iconst 0, 1) := by decide +kernel
theorem dX8_joined_190 : decode cX8_joined 190 = .ok (.ireturn, 1) := by decide +kernel
theorem dX8_push_0 : decode cX8_push 0 = .ok (.aload_n 0, 1) := by decide +kernel
theorem dX8_push_1 : decode cX8_push 1 = .ok (.getfield 50, 3) := by decide +kernel
theorem dX8_push_4 : decode cX8_push 4 = .ok (.bipush 121, 2) := by decide +kernel
theorem dX8_push_6 : decode cX8_push 6 = .ok (.if_icmp .ge 23, 3) := by decide +kernel
theorem dX8_push_9 : decode cX8_push 9 = .ok (.aload_n 0, 1) := by decide +kernel
theorem dX8_push_10 : decode cX8_push 10 = .ok (.getfield 23, 3) := by decide +kernel
theorem dX8_push_13 : decode cX8_push 13 = .ok (.aload_n 0, 1) := by decide +kernel
theorem dX8_push_14 : decode cX8_push 14 = .ok (.getfield 50, 3) := by decide +kernel
theorem dX8_push_17 : decode cX8_push 17 = .ok (.iload_n 1, 1) := by decide +kernel
theorem dX8_push_18 : decode cX8_push 18 = .ok (.iastore, 1) := by decide +kernel
theorem dX8_push_19 : decode cX8_push 19 = .ok (.aload_n 0, 1) := by decide +kernel
theorem dX8_push_20 : decode cX8_push 20 = .ok (.dup, 1) := by decide +kernel
theorem dX8_push_21 : decode cX8_push 21 = .ok (.getfield 50, 3) := by decide +kernel
theorem dX8_push_24 : decode cX8_push 24 = .ok (.iconst 1, 1) := by decide +kernel
theorem dX8_push_25 : decode cX8_push 25 = .ok (.iadd, 1) := by decide +kernel
theorem dX8_push_26 : decode cX8_push 26 = .ok (.putfield 50, 3) := by decide +kernel
theorem dX8_push_29 : decode cX8_push 29 = .ok (.return_, 1) := by decide +kernel
theorem dX8_pop_0 : decode cX8_pop 0 = .ok (.aload_n 0, 1) := by decide +kernel
theorem dX8_pop_1 : decode cX8_pop 1 = .ok (.getfield 50, 3) := by decide +kernel
theorem dX8_pop_4 : decode cX8_pop 4 = .ok (.ifCond .gt 5, 3) := by decide +kernel
theorem dX8_pop_7 : decode cX8_pop 7 = .ok (.iconst 0, 1) := by decide +kernel
theorem dX8_pop_8 : decode cX8_pop 8 = .ok (.ireturn, 1) := by decide +kernel
theorem dX8_pop_9 : decode cX8_pop 9 = .ok (.aload_n 0, 1) := by decide +kernel
theorem dX8_pop_10 : decode cX8_pop 10 = .ok (.dup, 1) := by decide +kernel
theorem dX8_pop_11 : decode cX8_pop 11 = .ok (.getfield 50, 3) := by decide +kernel
theorem dX8_pop_14 : decode cX8_pop 14 = .ok (.iconst 1, 1) := by decide +kernel
theorem dX8_pop_15 : decode cX8_pop 15 = .ok (.isub, 1) := by decide +kernel
theorem dX8_pop_16 : decode cX8_pop 16 = .ok (.putfield 50, 3) := by decide +kernel
theorem dX8_pop_19 : decode cX8_pop 19 = .ok (.aload_n 0, 1) := by decide +kernel
theorem dX8_pop_20 : decode cX8_pop 20 = .ok (.getfield 23, 3) := by decide +kernel
theorem dX8_pop_23 : decode cX8_pop 23 = .ok (.aload_n 0, 1) := by decide +kernel
theorem dX8_pop_24 : decode cX8_pop 24 = .ok (.getfield 50, 3) := by decide +kernel
theorem dX8_pop_27 : decode cX8_pop 27 = .ok (.iaload, 1) := by decide +kernel
theorem dX8_pop_28 : decode cX8_pop 28 = .ok (.ireturn, 1) := by decide +kernel
theorem dX9_init_0 : decode cX9_init 0 = .ok (.aload_n 0, 1) := by decide +kernel
theorem dX9_init_1 : decode cX9_init 1 = .ok (.invokespecial 3, 3) := by decide +kernel
theorem dX9_init_4 : decode cX9_init 4 = .ok (.aload_n 0, 1) := by decide +kernel
theorem dX9_init_5 : decode cX9_init 5 = .ok (.new 9, 3) := by decide +kernel
theorem dX9_init_8 : decode cX9_init 8 = .ok (.dup, 1) := by decide +kernel
theorem dX9_init_9 : decode cX9_init 9 = .ok (.invokespecial 11, 3) := by decide +kernel
theorem dX9_init_12 : decode cX9_init 12 = .ok (.putfield 12, 3) := by decide +kernel
theorem dX9_init_15 : decode cX9_init 15 = .ok (.aload_n 0, 1) := by decide +kernel
theorem dX9_init_16 : decode cX9_init 16 = .ok (.new 16, 3) := by decide +kernel
theorem dX9_init_19 : decode cX9_init 19 = .ok (.dup, 1) := by decide +kernel
theorem dX9_init_20 : decode cX9_init 20 = .ok (.aload_n 0, 1) := by decide +kernel
theorem dX9_init_21 : decode cX9_init 21 = .ok (.getfield 12, 3) := by decide +kernel
theorem dX9_init_24 : decode cX9_init 24 = .ok (.invokespecial 18, 3) := by decide +kernel
theorem dX9_init_27 : decode cX9_init 27 = .ok (.putfield 21, 3) := by decide +kernel
theorem dX9_init_30 : decode cX9_init 30 = .ok (.aload_n 0, 1) := by decide +kernel
theorem dX9_init_31 : decode cX9_init 31 = .ok (.new 25, 3) := by decide +kernel
theorem dX9_init_34 : decode cX9_init 34 = .ok (.dup, 1) := by decide +kernel
theorem dX9_init_35 : decode cX9_init 35 = .ok (.invokespecial 27, 3) := by decide +kernel
theorem dX9_init_38 : decode cX9_init 38 = .ok (.putfield 28, 3) := by decide +kernel
theorem dX9_init_41 : decode cX9_init 41 = .ok (.aload_n 0, 1) := by decide +kernel
theorem dX9_init_42 : decode cX9_init 42 = .ok (.new 32, 3) := by decide +kernel
theorem dX9_init_45 : decode cX9_init 45 = .ok (.dup, 1) := by decide +kernel
theorem dX9_init_46 : decode cX9_init 46 = .ok (.invokespecial 34, 3) := by decide +kernel
theorem dX9_init_49 : decode cX9_init 49 = .ok (.putfield 35, 3) := by decide +kernel
theorem dX9_init_52 : decode cX9_init 52 = .ok (.aload_n 0, 1) := by decide +kernel
theorem dX9_init_53 : decode cX9_init 53 = .ok (.new 39, 3) := by decide +kernel
theorem dX9_init_56 : decode cX9_init 56 = .ok (.dup, 1) := by decide +kernel
theorem dX9_init_57 : decode cX9_init 57 = .ok (.aload_n 0, 1) := by decide +kernel
theorem dX9_init_58 : decode cX9_init 58 = .ok (.getfield 12, 3) := by decide +kernel
theorem dX9_init_61 : decode cX9_init 61 = .ok (.aload_n 0, 1) := by decide +kernel
theorem dX9_init_62 : decode cX9_init 62 = .ok (.getfield 35, 3) := by decide +kernel
theorem dX9_init_65 : decode cX9_init 65 = .ok (.invokespecial 41, 3) := by decide +kernel
theorem dX9_init_68 : decode cX9_init 68 = .ok (.putfield 44, 3) := by decide +kernel
theorem dX9_init_71 : decode cX9_init 71 = .ok (.aload_n 0, 1) := by decide +kernel
theorem dX9_init_72 : decode cX9_init 72 = .ok (.new 48, 3) := by decide +kernel
theorem dX9_init_75 : decode cX9_init 75 = .ok (.dup, 1) := by decide +kernel
theorem dX9_init_76 : decode cX9_init 76 = .ok (.aload_n 0, 1) := by decide +kernel
theorem dX9_init_77 : decode cX9_init 77 = .ok (.getfield 12, 3) := by decide +kernel
theorem dX9_init_80 : decode cX9_init 80 = .ok (.aload_n 0, 1) := by decide +kernel
theorem dX9_init_81 : decode cX9_init 81 = .ok (.getfield 44, 3) := by decide +kernel
theorem dX9_init_84 : decode cX9_init 84 = .ok (.invokespecial 50, 3) := by decide +kernel
theorem dX9_init_87 : decode cX9_init 87 = .ok (.putfield 53, 3) := by decide +kernel
theorem dX9_init_90 : decode cX9_init 90 = .ok (.aload_n 0, 1) := by decide +kernel
theorem dX9_init_91 : decode cX9_init 91 = .ok (.new 57, 3) := by decide +kernel
theorem dX9_init_94 : decode cX9_init 94 = .ok (.dup, 1) := by decide +kernel
theorem dX9_init_95 : decode cX9_init 95 = .ok (.aload_n 0, 1) := by decide +kernel
theorem dX9_init_96 : decode cX9_init 96 = .ok (.getfield 12, 3) := by decide +kernel
theorem dX9_init_99 : decode cX9_init 99 = .ok (.aload_n 0, 1) := by decide +kernel
theorem dX9_init_100 : decode cX9_init 100 = .ok (.getfield 44, 3) := by decide +kernel
theorem dX9_init_103 : decode cX9_init 103 = .ok (.invokespecial 59, 3) := by decide +kernel
theorem dX9_init_106 : decode cX9_init 106 = .ok (.putfield 60, 3) := by decide +kernel
theorem dX9_init_109 : decode cX9_init 109 = .ok (.aload_n 0, 1) := by decide +kernel
theorem dX9_init_110 : decode cX9_init 110 = .ok (.new 64, 3) := by decide +kernel
theorem dX9_init_113 : decode cX9_init 113 = .ok (.dup, 1) := by decide +kernel
theorem dX9_init_114 : decode cX9_init 114 = .ok (.invokespecial 66, 3) := by decide +kernel
theorem dX9_init_117 : decode cX9_init 117 = .ok (.putfield 67, 3) := by decide +kernel
theorem dX9_init_120 : decode cX9_init 120 = .ok (.aload_n 0, 1) := by decide +kernel
theorem dX9_init_121 : decode cX9_init 121 = .ok (.new 71, 3) := by decide +kernel
theorem dX9_init_124 : decode cX9_init 124 = .ok (.dup, 1) := by decide +kernel
theorem dX9_init_125 : decode cX9_init 125 = .ok (.invokespecial 73, 3) := by decide +kernel
theorem dX9_init_128 : decode cX9_init 128 = .ok (.putfield 74, 3) := by decide +kernel
theorem dX9_init_131 : decode cX9_init 131 = .ok (.return_, 1) := by decide +kernel
theorem dX9_thing_0 : decode cX9_thing 0 = .ok (.iload_n 1, 1) := by decide +kernel
theorem dX9_thing_1 : decode cX9_thing 1 = .ok (.iconst 0, 1) := by decide +kernel
theorem dX9_thing_2 : decode cX9_thing 2 = .ok (.sipush 999, 3) := by decide +kernel
theorem dX9_thing_5 : decode cX9_thing 5 = .ok (.invokestatic 78, 3) := by decide +kernel
theorem dX9_thing_8 : decode cX9_thing 8 = .ok (.ifCond .eq 24, 3) := by decide +kernel
theorem dX9_thing_11 : decode cX9_thing 11 = .ok (.iload_n 2, 1) := by decide +kernel
theorem dX9_thing_12 : decode cX9_thing 12 = .ok (.iconst 0, 1) := by decide +kernel
theorem dX9_thing_13 : decode cX9_thing 13 = .ok (.sipush 9999, 3) := by decide +kernel
theorem dX9_thing_16 : decode cX9_thing 16 = .ok (.invokestatic 78, 3) := by decide +kernel
theorem dX9_thing_19 : decode cX9_thing 19 = .ok (.ifCond .eq 13, 3) := by decide +kernel
theorem dX9_thing_22 : decode cX9_thing 22 = .ok (.iload_n 3, 1) := by decide +kernel
theorem dX9_thing_23 : decode cX9_thing 23 = .ok (.iconst 0, 1) := by decide +kernel
theorem dX9_thing_24 : decode cX9_thing 24 = .ok (.bipush 99, 2) := by decide +kernel
theorem dX9_thing_26 : decode cX9_thing 26 = .ok (.invokestatic 78, 3) := by decide +kernel
theorem dX9_thing_29 : decode cX9_thing 29 = .ok (.ifCond .ne 5, 3) := by decide +kernel
theorem dX9_thing_32 : decode cX9_thing 32 = .ok (.iconst (-1), 1) := by decide +kernel
theorem dX9_thing_33 : decode cX9_thing 33 = .ok (.ireturn, 1) := by decide +kernel
theorem dX9_thing_34 : decode cX9_thing 34 = .ok (.aload_n 0, 1) := by decide +kernel
theorem dX9_thing_35 : decode cX9_thing 35 = .ok (.getfield 12, 3) := by decide +kernel
theorem dX9_thing_38 : decode cX9_thing 38 = .ok (.iload_n 1, 1) := by decide +kernel
theorem dX9_thing_39 : decode cX9_thing 39 = .ok (.iload_n 2, 1) := by decide +kernel
theorem dX9_thing_40 : decode cX9_thing 40 = .ok (.bipush 100, 2) := by decide +kernel
theorem dX9_thing_42 : decode cX9_thing 42 = .ok (.idiv, 1) := by decide +kernel
theorem dX9_thing_43 : decode cX9_thing 43 = .ok (.iload_n 2, 1) := by decide +kernel
theorem dX9_thing_44 : decode cX9_thing 44 = .ok (.bipush 100, 2) := by decide +kernel
theorem dX9_thing_46 : decode cX9_thing 46 = .ok (.irem, 1) := by decide +kernel
theorem dX9_thing_47 : decode cX9_thing 47 = .ok (.iload_n 3, 1) := by decide +kernel
theorem dX9_thing_48 : decode cX9_thing 48 = .ok (.invokevirtual 82, 3) := by decide +kernel
theorem dX9_thing_51 : decode cX9_thing 51 = .ok (.ireturn, 1) := by decide +kernel
theorem dX9_things_0 : decode cX9_things 0 = .ok (.aload_n 0, 1) := by decide +kernel
theorem dX9_things_1 : decode cX9_things 1 = .ok (.getfield 74, 3) := by decide +kernel
theorem dX9_things_4 : decode cX9_things 4 = .ok (.iload_n 1, 1) := by decide +kernel
theorem dX9_things_5 : decode cX9_things 5 = .ok (.invokevirtual 86, 3) := by decide +kernel
theorem dX9_things_8 : decode cX9_things 8 = .ok (.ifCond .eq 13, 3) := by decide +kernel
theorem dX9_things_11 : decode cX9_things 11 = .ok (.iload_n 3, 1) := by decide +kernel
theorem dX9_things_12 : decode cX9_things 12 = .ok (.iconst 1, 1) := by decide +kernel
theorem dX9_things_13 : decode cX9_things 13 = .ok (.bipush 6, 2) := by decide +kernel
theorem dX9_things_15 : decode cX9_things 15 = .ok (.invokestatic 78, 3) := by decide +kernel
theorem dX9_things_18 : decode cX9_things 18 = .ok (.ifCond .ne 5, 3) := by decide +kernel
theorem dX9_things_21 : decode cX9_things 21 = .ok (.iconst (-1), 1) := by decide +kernel
theorem dX9_things_22 : decode cX9_things 22 = .ok (.ireturn, 1) := by decide +kernel
theorem dX9_things_23 : decode cX9_things 23 = .ok (.aload_n 0, 1) := by decide +kernel
theorem dX9_things_24 : decode cX9_things 24 = .ok (.getfield 74, 3) := by decide +kernel
theorem dX9_things_27 : decode cX9_things 27 = .ok (.iload_n 1, 1) := by decide +kernel
theorem dX9_things_28 : decode cX9_things 28 = .ok (.invokevirtual 90, 3) := by decide +kernel
theorem dX9_things_31 : decode cX9_things 31 = .ok (.istore 4, 2) := by decide +kernel
theorem dX9_things_33 : decode cX9_things 33 = .ok (.iload 4, 2) := by decide +kernel
theorem dX9_things_35 : decode cX9_things 35 = .ok (.iconst (-1), 1) := by decide +kernel
theorem dX9_things_36 : decode cX9_things 36 = .ok (.if_icmp .ne 5, 3) := by decide +kernel
theorem dX9_things_39 : decode cX9_things 39 = .ok (.iconst 0, 1) := by decide +kernel
theorem dX9_things_40 : decode cX9_things 40 = .ok (.ireturn, 1) := by decide +kernel
theorem dX9_things_41 : decode cX9_things 41 = .ok (.iload 4, 2) := by decide +kernel
theorem dX9_things_43 : decode cX9_things 43 = .ok (.iconst 1, 1) := by decide +kernel
theorem dX9_things_44 : decode cX9_things 44 = .ok (.if_icmp .eq 6, 3) := by decide +kernel
theorem dX9_things_47 : decode cX9_things 47 = .ok (.bipush (-12), 2) := by decide +kernel
theorem dX9_things_49 : decode cX9_things 49 = .ok (.ireturn, 1) := by decide +kernel
theorem dX9_things_50 : decode cX9_things 50 = .ok (.iconst 0, 1) := by decide +kernel
theorem dX9_things_51 : decode cX9_things 51 = .ok (.istore 5, 2) := by decide +kernel
theorem dX9_things_53 : decode cX9_things 53 = .ok (.iload 5, 2) := by decide +kernel
theorem dX9_things_55 : decode cX9_things 55 = .ok (.iload_n 3, 1) := by decide +kernel
theorem dX9_things_56 : decode cX9_things 56 = .ok (.if_icmp .ge 23, 3) := by decide +kernel
theorem dX9_things_59 : decode cX9_things 59 = .ok (.aload_n 0, 1) := by decide +kernel
theorem dX9_things_60 : decode cX9_things 60 = .ok (.iload_n 1, 1) := by decide +kernel
theorem dX9_things_61 : decode cX9_things 61 = .ok (.iload_n 2, 1) := by decide +kernel
theorem dX9_things_62 : decode cX9_things 62 = .ok (.iconst 4, 1) := by decide +kernel
theorem dX9_things_63 : decode cX9_things 63 = .ok (.iload 5, 2) := by decide +kernel
theorem dX9_things_65 : decode cX9_things 65 = .ok (.imul, 1) := by decide +kernel
theorem dX9_things_66 : decode cX9_things 66 = .ok (.iadd, 1) := by decide +kernel
theorem dX9_things_67 : decode cX9_things 67 = .ok (.invokevirtual 94, 3) := by decide +kernel
theorem dX9_things_70 : decode cX9_things 70 = .ok (.ifCond .eq 9, 3) := by decide +kernel
theorem dX9_things_73 : decode cX9_things 73 = .ok (.iinc 5 1, 3) := by decide +kernel
theorem dX9_things_76 : decode cX9_things 76 = .ok (.goto (-23), 3) := by decide +kernel
theorem dX9_things_79 : decode cX9_things 79 = .ok (.iload 5, 2) := by decide +kernel
theorem dX9_things_81 : decode cX9_things 81 = .ok (.ireturn, 1) := by decide +kernel
theorem dX9_mend_0 : decode cX9_mend 0 = .ok (.aload_n 0, 1) := by decide +kernel
theorem dX9_mend_1 : decode cX9_mend 1 = .ok (.getfield 12, 3) := by decide +kernel
theorem dX9_mend_4 : decode cX9_mend 4 = .ok (.iload_n 1, 1) := by decide +kernel
theorem dX9_mend_5 : decode cX9_mend 5 = .ok (.invokevirtual 98, 3) := by decide +kernel
theorem dX9_mend_8 : decode cX9_mend 8 = .ok (.ifCond .eq 32, 3) := by decide +kernel
theorem dX9_mend_11 : decode cX9_mend 11 = .ok (.iload_n 2, 1) := by decide +kernel
theorem dX9_mend_12 : decode cX9_mend 12 = .ok (.iconst 0, 1) := by decide +kernel
theorem dX9_mend_13 : decode cX9_mend 13 = .ok (.iconst 2, 1) := by decide +kernel
theorem dX9_mend_14 : decode cX9_mend 14 = .ok (.invokestatic 78, 3) := by decide +kernel
theorem dX9_mend_17 : decode cX9_mend 17 = .ok (.ifCond .eq 23, 3) := by decide +kernel
theorem dX9_mend_20 : decode cX9_mend 20 = .ok (.iload_n 3, 1) := by decide +kernel
theorem dX9_mend_21 : decode cX9_mend 21 = .ok (.iconst 0, 1) := by decide +kernel
theorem dX9_mend_22 : decode cX9_mend 22 = .ok (.iload_n 2, 1) := by decide +kernel
theorem dX9_mend_23 : decode cX9_mend 23 = .ok (.ifCond .ne 9, 3) := by decide +kernel
theorem dX9_mend_26 : decode cX9_mend 26 = .ok (.sipush 999, 3) := by decide +kernel
theorem dX9_mend_29 : decode cX9_mend 29 = .ok (.goto 5, 3) := by decide +kernel
theorem dX9_mend_32 : decode cX9_mend 32 = .ok (.bipush 99, 2) := by decide +kernel
theorem dX9_mend_34 : decode cX9_mend 34 = .ok (.invokestatic 78, 3) := by decide +kernel
theorem dX9_mend_37 : decode cX9_mend 37 = .ok (.ifCond .ne 5, 3) := by decide +kernel
theorem dX9_mend_40 : decode cX9_mend 40 = .ok (.iconst (-1), 1) := by decide +kernel
theorem dX9_mend_41 : decode cX9_mend 41 = .ok (.ireturn, 1) := by decide +kernel
theorem dX9_mend_42 : decode cX9_mend 42 = .ok (.aload_n 0, 1) := by decide +kernel
theorem dX9_mend_43 : decode cX9_mend 43 = .ok (.getfield 21, 3) := by decide +kernel
theorem dX9_mend_46 : decode cX9_mend 46 = .ok (.iconst 0, 1) := by decide +kernel
theorem dX9_mend_47 : decode cX9_mend 47 = .ok (.iload_n 2, 1) := by decide +kernel
theorem dX9_mend_48 : decode cX9_mend 48 = .ok (.iadd, 1) := by decide +kernel
theorem dX9_mend_49 : decode cX9_mend 49 = .ok (.iload_n 1, 1) := by decide +kernel
theorem dX9_mend_50 : decode cX9_mend 50 = .ok (.iload_n 3, 1) := by decide +kernel
theorem dX9_mend_51 : decode cX9_mend 51 = .ok (.invokevirtual 101, 3) := by decide +kernel
theorem dX9_mend_54 : decode cX9_mend 54 = .ok (.ireturn, 1) := by decide +kernel
theorem dX9_sort_0 : decode cX9_sort 0 = .ok (.iload_n 1, 1) := by decide +kernel
theorem dX9_sort_1 : decode cX9_sort 1 = .ok (.iconst 1, 1) := by decide +kernel
theorem dX9_sort_2 : decode cX9_sort 2 = .ok (.bipush 99, 2) := by decide +kernel
theorem dX9_sort_4 : decode cX9_sort 4 = .ok (.invokestatic 78, 3) := by decide +kernel
theorem dX9_sort_7 : decode cX9_sort 7 = .ok (.ifCond .eq 24, 3) := by decide +kernel
theorem dX9_sort_10 : decode cX9_sort 10 = .ok (.iload_n 2, 1) := by decide +kernel
theorem dX9_sort_11 : decode cX9_sort 11 = .ok (.iconst 0, 1) := by decide +kernel
theorem dX9_sort_12 : decode cX9_sort 12 = .ok (.sipush 9999, 3) := by decide +kernel
theorem dX9_sort_15 : decode cX9_sort 15 = .ok (.invokestatic 78, 3) := by decide +kernel
theorem dX9_sort_18 : decode cX9_sort 18 = .ok (.ifCond .eq 13, 3) := by decide +kernel
theorem dX9_sort_21 : decode cX9_sort 21 = .ok (.iload_n 3, 1) := by decide +kernel
theorem dX9_sort_22 : decode cX9_sort 22 = .ok (.iconst 0, 1) := by decide +kernel
theorem dX9_sort_23 : decode cX9_sort 23 = .ok (.bipush 39, 2) := by decide +kernel
theorem dX9_sort_25 : decode cX9_sort 25 = .ok (.invokestatic 78, 3) := by decide +kernel
theorem dX9_sort_28 : decode cX9_sort 28 = .ok (.ifCond .ne 5, 3) := by decide +kernel
theorem dX9_sort_31 : decode cX9_sort 31 = .ok (.iconst (-1), 1) := by decide +kernel
theorem dX9_sort_32 : decode cX9_sort 32 = .ok (.ireturn, 1) := by decide +kernel
theorem dX9_sort_33 : decode cX9_sort 33 = .ok (.iload_n 3, 1) := by decide +kernel
theorem dX9_sort_34 : decode cX9_sort 34 = .ok (.bipush 10, 2) := by decide +kernel
theorem dX9_sort_36 : decode cX9_sort 36 = .ok (.irem, 1) := by decide +kernel
theorem dX9_sort_37 : decode cX9_sort 37 = .ok (.aload_n 0, 1) := by decide +kernel
theorem dX9_sort_38 : decode cX9_sort 38 = .ok (.getfield 35, 3) := by decide +kernel
theorem dX9_sort_41 : decode cX9_sort 41 = .ok (.invokevirtual 105, 3) := by decide +kernel
theorem dX9_sort_44 : decode cX9_sort 44 = .ok (.if_icmp .lt 5, 3) := by decide +kernel
theorem dX9_sort_47 : decode cX9_sort 47 = .ok (.iconst (-1), 1) := by decide +kernel
theorem dX9_sort_48 : decode cX9_sort 48 = .ok (.ireturn, 1) := by decide +kernel
theorem dX9_sort_49 : decode cX9_sort 49 = .ok (.aload_n 0, 1) := by decide +kernel
theorem dX9_sort_50 : decode cX9_sort 50 = .ok (.getfield 12, 3) := by decide +kernel
theorem dX9_sort_53 : decode cX9_sort 53 = .ok (.iload_n 1, 1) := by decide +kernel
theorem dX9_sort_54 : decode cX9_sort 54 = .ok (.iload_n 2, 1) := by decide +kernel
theorem dX9_sort_55 : decode cX9_sort 55 = .ok (.iload_n 3, 1) := by decide +kernel
theorem dX9_sort_56 : decode cX9_sort 56 = .ok (.invokevirtual 109, 3) := by decide +kernel
theorem dX9_sort_59 : decode cX9_sort 59 = .ok (.ireturn, 1) := by decide +kernel
theorem dX9_purse_0 : decode cX9_purse 0 = .ok (.aload_n 0, 1) := by decide +kernel
theorem dX9_purse_1 : decode cX9_purse 1 = .ok (.getfield 12, 3) := by decide +kernel
theorem dX9_purse_4 : decode cX9_purse 4 = .ok (.iload_n 1, 1) := by decide +kernel
theorem dX9_purse_5 : decode cX9_purse 5 = .ok (.invokevirtual 112, 3) := by decide +kernel
theorem dX9_purse_8 : decode cX9_purse 8 = .ok (.ifCond .eq 22, 3) := by decide +kernel
theorem dX9_purse_11 : decode cX9_purse 11 = .ok (.iload_n 2, 1) := by decide +kernel
theorem dX9_purse_12 : decode cX9_purse 12 = .ok (.iconst 0, 1) := by decide +kernel
theorem dX9_purse_13 : decode cX9_purse 13 = .ok (.iconst 1, 1) := by decide +kernel
theorem dX9_purse_14 : decode cX9_purse 14 = .ok (.invokestatic 78, 3) := by decide +kernel
theorem dX9_purse_17 : decode cX9_purse 17 = .ok (.ifCond .eq 13, 3) := by decide +kernel
theorem dX9_purse_20 : decode cX9_purse 20 = .ok (.iload_n 3, 1) := by decide +kernel
theorem dX9_purse_21 : decode cX9_purse 21 = .ok (.iconst 0, 1) := by decide +kernel
theorem dX9_purse_22 : decode cX9_purse 22 = .ok (.bipush 99, 2) := by decide +kernel
theorem dX9_purse_24 : decode cX9_purse 24 = .ok (.invokestatic 78, 3) := by decide +kernel
theorem dX9_purse_27 : decode cX9_purse 27 = .ok (.ifCond .ne 5, 3) := by decide +kernel
theorem dX9_purse_30 : decode cX9_purse 30 = .ok (.iconst (-1), 1) := by decide +kernel
theorem dX9_purse_31 : decode cX9_purse 31 = .ok (.ireturn, 1) := by decide +kernel
theorem dX9_purse_32 : decode cX9_purse 32 = .ok (.aload_n 0, 1) := by decide +kernel
theorem dX9_purse_33 : decode cX9_purse 33 = .ok (.getfield 21, 3) := by decide +kernel
theorem dX9_purse_36 : decode cX9_purse 36 = .ok (.iconst 5, 1) := by decide +kernel
theorem dX9_purse_37 : decode cX9_purse 37 = .ok (.iload_n 2, 1) := by decide +kernel
theorem dX9_purse_38 : decode cX9_purse 38 = .ok (.iadd, 1) := by decide +kernel
theorem dX9_purse_39 : decode cX9_purse 39 = .ok (.iload_n 1, 1) := by decide +kernel
theorem dX9_purse_40 : decode cX9_purse 40 = .ok (.iload_n 3, 1) := by decide +kernel
theorem dX9_purse_41 : decode cX9_purse 41 = .ok (.invokevirtual 101, 3) := by decide +kernel
theorem dX9_purse_44 : decode cX9_purse 44 = .ok (.ireturn, 1) := by decide +kernel
theorem dX9_of_0 : decode cX9_of 0 = .ok (.iload_n 2, 1) := by decide +kernel
theorem dX9_of_1 : decode cX9_of 1 = .ok (.iconst 0, 1) := by decide +kernel
theorem dX9_of_2 : decode cX9_of 2 = .ok (.iconst 3, 1) := by decide +kernel
theorem dX9_of_3 : decode cX9_of 3 = .ok (.invokestatic 78, 3) := by decide +kernel
theorem dX9_of_6 : decode cX9_of 6 = .ok (.ifCond .eq 30, 3) := by decide +kernel
theorem dX9_of_9 : decode cX9_of 9 = .ok (.aload_n 0, 1) := by decide +kernel
theorem dX9_of_10 : decode cX9_of 10 = .ok (.getfield 12, 3) := by decide +kernel
theorem dX9_of_13 : decode cX9_of 13 = .ok (.iload_n 1, 1) := by decide +kernel
theorem dX9_of_14 : decode cX9_of 14 = .ok (.invokevirtual 98, 3) := by decide +kernel
theorem dX9_of_17 : decode cX9_of 17 = .ok (.ifCond .eq 17, 3) := by decide +kernel
theorem dX9_of_20 : decode cX9_of 20 = .ok (.aload_n 0, 1) := by decide +kernel
theorem dX9_of_21 : decode cX9_of 21 = .ok (.getfield 12, 3) := by decide +kernel
theorem dX9_of_24 : decode cX9_of 24 = .ok (.iconst 0, 1) := by decide +kernel
theorem dX9_of_25 : decode cX9_of 25 = .ok (.iload_n 2, 1) := by decide +kernel
theorem dX9_of_26 : decode cX9_of 26 = .ok (.iadd, 1) := by decide +kernel
theorem dX9_of_27 : decode cX9_of 27 = .ok (.iload_n 1, 1) := by decide +kernel
theorem dX9_of_28 : decode cX9_of 28 = .ok (.invokevirtual 115, 3) := by decide +kernel
theorem dX9_of_31 : decode cX9_of 31 = .ok (.goto 4, 3) := by decide +kernel
theorem dX9_of_34 : decode cX9_of 34 = .ok (.iconst (-1), 1) := by decide +kernel
theorem dX9_of_35 : decode cX9_of 35 = .ok (.ireturn, 1) := by decide +kernel
theorem dX9_of_36 : decode cX9_of 36 = .ok (.iload_n 2, 1) := by decide +kernel
theorem dX9_of_37 : decode cX9_of 37 = .ok (.bipush 10, 2) := by decide +kernel
theorem dX9_of_39 : decode cX9_of 39 = .ok (.bipush 14, 2) := by decide +kernel
theorem dX9_of_41 : decode cX9_of 41 = .ok (.invokestatic 78, 3) := by decide +kernel
theorem dX9_of_44 : decode cX9_of 44 = .ok (.ifCond .eq 14, 3) := by decide +kernel
theorem dX9_of_47 : decode cX9_of 47 = .ok (.aload_n 0, 1) := by decide +kernel
theorem dX9_of_48 : decode cX9_of 48 = .ok (.getfield 12, 3) := by decide +kernel
theorem dX9_of_51 : decode cX9_of 51 = .ok (.iload_n 1, 1) := by decide +kernel
theorem dX9_of_52 : decode cX9_of 52 = .ok (.invokevirtual 112, 3) := by decide +kernel
theorem dX9_of_55 : decode cX9_of 55 = .ok (.ifCond .ne 5, 3) := by decide +kernel
theorem dX9_of_58 : decode cX9_of 58 = .ok (.iconst (-1), 1) := by decide +kernel
theorem dX9_of_59 : decode cX9_of 59 = .ok (.ireturn, 1) := by decide +kernel
theorem dX9_of_60 : decode cX9_of 60 = .ok (.iload_n 2, 1) := by decide +kernel
theorem dX9_of_61 : decode cX9_of 61 = .ok (.bipush 12, 2) := by decide +kernel
theorem dX9_of_63 : decode cX9_of 63 = .ok (.if_icmp .ne 14, 3) := by decide +kernel
theorem dX9_of_66 : decode cX9_of 66 = .ok (.aload_n 0, 1) := by decide +kernel
theorem dX9_of_67 : decode cX9_of 67 = .ok (.getfield 12, 3) := by decide +kernel
theorem dX9_of_70 : decode cX9_of 70 = .ok (.iload_n 1, 1) := by decide +kernel
theorem dX9_of_71 : decode cX9_of 71 = .ok (.invokevirtual 119, 3) := by decide +kernel
theorem dX9_of_74 : decode cX9_of 74 = .ok (.goto 17, 3) := by decide +kernel
theorem dX9_of_77 : decode cX9_of 77 = .ok (.aload_n 0, 1) := by decide +kernel
theorem dX9_of_78 : decode cX9_of 78 = .ok (.getfield 12, 3) := by decide +kernel
theorem dX9_of_81 : decode cX9_of 81 = .ok (.iconst 4, 1) := by decide +kernel
theorem dX9_of_82 : decode cX9_of 82 = .ok (.iload_n 2, 1) := by decide +kernel
theorem dX9_of_83 : decode cX9_of 83 = .ok (.iadd, 1) := by decide +kernel
theorem dX9_of_84 : decode cX9_of 84 = .ok (.bipush 10, 2) := by decide +kernel
theorem dX9_of_86 : decode cX9_of 86 = .ok (.isub, 1) := by decide +kernel
theorem dX9_of_87 : decode cX9_of 87 = .ok (.iload_n 1, 1) := by decide +kernel
theorem dX9_of_88 : decode cX9_of 88 = .ok (.invokevirtual 115, 3) := by decide +kernel
theorem dX9_of_91 : decode cX9_of 91 = .ok (.ireturn, 1) := by decide +kernel
theorem dX9_feed_0 : decode cX9_feed 0 = .ok (.iload_n 1, 1) := by decide +kernel
theorem dX9_feed_1 : decode cX9_feed 1 = .ok (.iconst 1, 1) := by decide +kernel
theorem dX9_feed_2 : decode cX9_feed 2 = .ok (.iconst 4, 1) := by decide +kernel
theorem dX9_feed_3 : decode cX9_feed 3 = .ok (.invokestatic 78, 3) := by decide +kernel
theorem dX9_feed_6 : decode cX9_feed 6 = .ok (.ifCond .ne 5, 3) := by decide +kernel
theorem dX9_feed_9 : decode cX9_feed 9 = .ok (.iconst (-1), 1) := by decide +kernel
theorem dX9_feed_10 : decode cX9_feed 10 = .ok (.ireturn, 1) := by decide +kernel
theorem dX9_feed_11 : decode cX9_feed 11 = .ok (.aload_n 0, 1) := by decide +kernel
theorem dX9_feed_12 : decode cX9_feed 12 = .ok (.getfield 28, 3) := by decide +kernel
theorem dX9_feed_15 : decode cX9_feed 15 = .ok (.iload_n 1, 1) := by decide +kernel
theorem dX9_feed_16 : decode cX9_feed 16 = .ok (.iload_n 2, 1) := by decide +kernel
theorem dX9_feed_17 : decode cX9_feed 17 = .ok (.invokevirtual 122, 3) := by decide +kernel
theorem dX9_feed_20 : decode cX9_feed 20 = .ok (.ireturn, 1) := by decide +kernel
theorem dX9_want_0 : decode cX9_want 0 = .ok (.aload_n 0, 1) := by decide +kernel
theorem dX9_want_1 : decode cX9_want 1 = .ok (.getfield 35, 3) := by decide +kernel
theorem dX9_want_4 : decode cX9_want 4 = .ok (.invokevirtual 105, 3) := by decide +kernel
theorem dX9_want_7 : decode cX9_want 7 = .ok (.iconst 4, 1) := by decide +kernel
theorem dX9_want_8 : decode cX9_want 8 = .ok (.if_icmp .lt 6, 3) := by decide +kernel
theorem dX9_want_11 : decode cX9_want 11 = .ok (.bipush (-3), 2) := by decide +kernel
theorem dX9_want_13 : decode cX9_want 13 = .ok (.ireturn, 1) := by decide +kernel
theorem dX9_want_14 : decode cX9_want 14 = .ok (.aload_n 0, 1) := by decide +kernel
theorem dX9_want_15 : decode cX9_want 15 = .ok (.getfield 28, 3) := by decide +kernel
theorem dX9_want_18 : decode cX9_want 18 = .ok (.invokevirtual 125, 3) := by decide +kernel
theorem dX9_want_21 : decode cX9_want 21 = .ok (.istore_n 1, 1) := by decide +kernel
theorem dX9_want_22 : decode cX9_want 22 = .ok (.iload_n 1, 1) := by decide +kernel
theorem dX9_want_23 : decode cX9_want 23 = .ok (.ifCond .eq 17, 3) := by decide +kernel
theorem dX9_want_26 : decode cX9_want 26 = .ok (.aload_n 0, 1) := by decide +kernel
theorem dX9_want_27 : decode cX9_want 27 = .ok (.getfield 35, 3) := by decide +kernel
theorem dX9_want_30 : decode cX9_want 30 = .ok (.aload_n 0, 1) := by decide +kernel
theorem dX9_want_31 : decode cX9_want 31 = .ok (.getfield 28, 3) := by decide +kernel
theorem dX9_want_34 : decode cX9_want 34 = .ok (.invokevirtual 129, 3) := by decide +kernel
theorem dX9_want_37 : decode cX9_want 37 = .ok (.goto 13, 3) := by decide +kernel
theorem dX9_want_40 : decode cX9_want 40 = .ok (.bipush (-100), 2) := by decide +kernel
theorem dX9_want_42 : decode cX9_want 42 = .ok (.aload_n 0, 1) := by decide +kernel
theorem dX9_want_43 : decode cX9_want 43 = .ok (.getfield 28, 3) := by decide +kernel
theorem dX9_want_46 : decode cX9_want 46 = .ok (.invokevirtual 133, 3) := by decide +kernel
theorem dX9_want_49 : decode cX9_want 49 = .ok (.isub, 1) := by decide +kernel
theorem dX9_want_50 : decode cX9_want 50 = .ok (.istore_n 2, 1) := by decide +kernel
theorem dX9_want_51 : decode cX9_want 51 = .ok (.aload_n 0, 1) := by decide +kernel
theorem dX9_want_52 : decode cX9_want 52 = .ok (.getfield 28, 3) := by decide +kernel
theorem dX9_want_55 : decode cX9_want 55 = .ok (.invokevirtual 136, 3) := by decide +kernel
theorem dX9_want_58 : decode cX9_want 58 = .ok (.iload_n 2, 1) := by decide +kernel
theorem dX9_want_59 : decode cX9_want 59 = .ok (.ireturn, 1) := by decide +kernel
theorem dX9_worth_0 : decode cX9_worth 0 = .ok (.aload_n 0, 1) := by decide +kernel
theorem dX9_worth_1 : decode cX9_worth 1 = .ok (.getfield 12, 3) := by decide +kernel
theorem dX9_worth_4 : decode cX9_worth 4 = .ok (.iload_n 1, 1) := by decide +kernel
theorem dX9_worth_5 : decode cX9_worth 5 = .ok (.invokevirtual 112, 3) := by decide +kernel
theorem dX9_worth_8 : decode cX9_worth 8 = .ok (.ifCond .eq 33, 3) := by decide +kernel
theorem dX9_worth_11 : decode cX9_worth 11 = .ok (.iload_n 2, 1) := by decide +kernel
theorem dX9_worth_12 : decode cX9_worth 12 = .ok (.ifCond .lt 29, 3) := by decide +kernel
theorem dX9_worth_15 : decode cX9_worth 15 = .ok (.aload_n 0, 1) := by decide +kernel
theorem dX9_worth_16 : decode cX9_worth 16 = .ok (.getfield 12, 3) := by decide +kernel
theorem dX9_worth_19 : decode cX9_worth 19 = .ok (.iload_n 2, 1) := by decide +kernel
theorem dX9_worth_20 : decode cX9_worth 20 = .ok (.bipush 10, 2) := by decide +kernel
theorem dX9_worth_22 : decode cX9_worth 22 = .ok (.idiv, 1) := by decide +kernel
theorem dX9_worth_23 : decode cX9_worth 23 = .ok (.invokevirtual 98, 3) := by decide +kernel
theorem dX9_worth_26 : decode cX9_worth 26 = .ok (.ifCond .eq 15, 3) := by decide +kernel
theorem dX9_worth_29 : decode cX9_worth 29 = .ok (.iload_n 2, 1) := by decide +kernel
theorem dX9_worth_30 : decode cX9_worth 30 = .ok (.bipush 10, 2) := by decide +kernel
theorem dX9_worth_32 : decode cX9_worth 32 = .ok (.irem, 1) := by decide +kernel
theorem dX9_worth_33 : decode cX9_worth 33 = .ok (.iconst 1, 1) := by decide +kernel
theorem dX9_worth_34 : decode cX9_worth 34 = .ok (.iconst 3, 1) := by decide +kernel
theorem dX9_worth_35 : decode cX9_worth 35 = .ok (.invokestatic 78, 3) := by decide +kernel
theorem dX9_worth_38 : decode cX9_worth 38 = .ok (.ifCond .ne 5, 3) := by decide +kernel
theorem dX9_worth_41 : decode cX9_worth 41 = .ok (.iconst (-1), 1) := by decide +kernel
theorem dX9_worth_42 : decode cX9_worth 42 = .ok (.ireturn, 1) := by decide +kernel
theorem dX9_worth_43 : decode cX9_worth 43 = .ok (.aload_n 0, 1) := by decide +kernel
theorem dX9_worth_44 : decode cX9_worth 44 = .ok (.getfield 44, 3) := by decide +kernel
theorem dX9_worth_47 : decode cX9_worth 47 = .ok (.invokevirtual 139, 3) := by decide +kernel
theorem dX9_worth_50 : decode cX9_worth 50 = .ok (.aload_n 0, 1) := by decide +kernel
theorem dX9_worth_51 : decode cX9_worth 51 = .ok (.getfield 44, 3) := by decide +kernel
theorem dX9_worth_54 : decode cX9_worth 54 = .ok (.iload_n 1, 1) := by decide +kernel
theorem dX9_worth_55 : decode cX9_worth 55 = .ok (.iload_n 2, 1) := by decide +kernel
theorem dX9_worth_56 : decode cX9_worth 56 = .ok (.bipush 10, 2) := by decide +kernel
theorem dX9_worth_58 : decode cX9_worth 58 = .ok (.idiv, 1) := by decide +kernel
theorem dX9_worth_59 : decode cX9_worth 59 = .ok (.iload_n 2, 1) := by decide +kernel
theorem dX9_worth_60 : decode cX9_worth 60 = .ok (.bipush 10, 2) := by decide +kernel
theorem dX9_worth_62 : decode cX9_worth 62 = .ok (.irem, 1) := by decide +kernel
theorem dX9_worth_63 : decode cX9_worth 63 = .ok (.invokevirtual 142, 3) := by decide +kernel
theorem dX9_worth_66 : decode cX9_worth 66 = .ok (.ireturn, 1) := by decide +kernel
theorem dX9_basket_0 : decode cX9_basket 0 = .ok (.aload_n 0, 1) := by decide +kernel
theorem dX9_basket_1 : decode cX9_basket 1 = .ok (.getfield 12, 3) := by decide +kernel
theorem dX9_basket_4 : decode cX9_basket 4 = .ok (.iload_n 1, 1) := by decide +kernel
theorem dX9_basket_5 : decode cX9_basket 5 = .ok (.invokevirtual 112, 3) := by decide +kernel
theorem dX9_basket_8 : decode cX9_basket 8 = .ok (.ifCond .eq 12, 3) := by decide +kernel
theorem dX9_basket_11 : decode cX9_basket 11 = .ok (.iload_n 2, 1) := by decide +kernel
theorem dX9_basket_12 : decode cX9_basket 12 = .ok (.iconst 0, 1) := by decide +kernel
theorem dX9_basket_13 : decode cX9_basket 13 = .ok (.iconst 3, 1) := by decide +kernel
theorem dX9_basket_14 : decode cX9_basket 14 = .ok (.invokestatic 78, 3) := by decide +kernel
theorem dX9_basket_17 : decode cX9_basket 17 = .ok (.ifCond .ne 5, 3) := by decide +kernel
theorem dX9_basket_20 : decode cX9_basket 20 = .ok (.iconst (-1), 1) := by decide +kernel
theorem dX9_basket_21 : decode cX9_basket 21 = .ok (.ireturn, 1) := by decide +kernel
theorem dX9_basket_22 : decode cX9_basket 22 = .ok (.aload_n 0, 1) := by decide +kernel
theorem dX9_basket_23 : decode cX9_basket 23 = .ok (.getfield 44, 3) := by decide +kernel
theorem dX9_basket_26 : decode cX9_basket 26 = .ok (.invokevirtual 139, 3) := by decide +kernel
theorem dX9_basket_29 : decode cX9_basket 29 = .ok (.aload_n 0, 1) := by decide +kernel
theorem dX9_basket_30 : decode cX9_basket 30 = .ok (.getfield 44, 3) := by decide +kernel
theorem dX9_basket_33 : decode cX9_basket 33 = .ok (.iload_n 1, 1) := by decide +kernel
theorem dX9_basket_34 : decode cX9_basket 34 = .ok (.invokevirtual 145, 3) := by decide +kernel
theorem dX9_basket_37 : decode cX9_basket 37 = .ok (.aload_n 0, 1) := by decide +kernel
theorem dX9_basket_38 : decode cX9_basket 38 = .ok (.getfield 44, 3) := by decide +kernel
theorem dX9_basket_41 : decode cX9_basket 41 = .ok (.iload_n 1, 1) := by decide +kernel
theorem dX9_basket_42 : decode cX9_basket 42 = .ok (.invokevirtual 149, 3) := by decide +kernel
theorem dX9_basket_45 : decode cX9_basket 45 = .ok (.iload_n 2, 1) := by decide +kernel
theorem dX9_basket_46 : decode cX9_basket 46 = .ok (.tableswitch 50 0 2 #[26, 34, 42], 26) := by decide +kernel
theorem dX9_basket_72 : decode cX9_basket 72 = .ok (.aload_n 0, 1) := by decide +kernel
theorem dX9_basket_73 : decode cX9_basket 73 = .ok (.getfield 44, 3) := by decide +kernel
theorem dX9_basket_76 : decode cX9_basket 76 = .ok (.getfield 152, 3) := by decide +kernel
theorem dX9_basket_79 : decode cX9_basket 79 = .ok (.ireturn, 1) := by decide +kernel
theorem dX9_basket_80 : decode cX9_basket 80 = .ok (.aload_n 0, 1) := by decide +kernel
theorem dX9_basket_81 : decode cX9_basket 81 = .ok (.getfield 44, 3) := by decide +kernel
theorem dX9_basket_84 : decode cX9_basket 84 = .ok (.getfield 156, 3) := by decide +kernel
theorem dX9_basket_87 : decode cX9_basket 87 = .ok (.ireturn, 1) := by decide +kernel
theorem dX9_basket_88 : decode cX9_basket 88 = .ok (.aload_n 0, 1) := by decide +kernel
theorem dX9_basket_89 : decode cX9_basket 89 = .ok (.getfield 44, 3) := by decide +kernel
theorem dX9_basket_92 : decode cX9_basket 92 = .ok (.getfield 159, 3) := by decide +kernel
theorem dX9_basket_95 : decode cX9_basket 95 = .ok (.ireturn, 1) := by decide +kernel
theorem dX9_basket_96 : decode cX9_basket 96 = .ok (.aload_n 0, 1) := by decide +kernel
theorem dX9_basket_97 : decode cX9_basket 97 = .ok (.getfield 44, 3) := by decide +kernel
theorem dX9_basket_100 : decode cX9_basket 100 = .ok (.getfield 162, 3) := by decide +kernel
theorem dX9_basket_103 : decode cX9_basket 103 = .ok (.ireturn, 1) := by decide +kernel
theorem dX9_wanted_0 : decode cX9_wanted 0 = .ok (.iload_n 1, 1) := by decide +kernel
theorem dX9_wanted_1 : decode cX9_wanted 1 = .ok (.iconst (-1), 1) := by decide +kernel
theorem dX9_wanted_2 : decode cX9_wanted 2 = .ok (.if_icmp .ne 12, 3) := by decide +kernel
theorem dX9_wanted_5 : decode cX9_wanted 5 = .ok (.iload_n 2, 1) := by decide +kernel
theorem dX9_wanted_6 : decode cX9_wanted 6 = .ok (.iconst 1, 1) := by decide +kernel
theorem dX9_wanted_7 : decode cX9_wanted 7 = .ok (.if_icmp .ne 7, 3) := by decide +kernel
theorem dX9_wanted_10 : decode cX9_wanted 10 = .ok (.iconst 1, 1) := by decide +kernel
theorem dX9_wanted_11 : decode cX9_wanted 11 = .ok (.goto 4, 3) := by decide +kernel
theorem dX9_wanted_14 : decode cX9_wanted 14 = .ok (.iconst 0, 1) := by decide +kernel
theorem dX9_wanted_15 : decode cX9_wanted 15 = .ok (.istore_n 3, 1) := by decide +kernel
theorem dX9_wanted_16 : decode cX9_wanted 16 = .ok (.iload_n 3, 1) := by decide +kernel
theorem dX9_wanted_17 : decode cX9_wanted 17 = .ok (.ifCond .ne 26, 3) := by decide +kernel
theorem dX9_wanted_20 : decode cX9_wanted 20 = .ok (.aload_n 0, 1) := by decide +kernel
theorem dX9_wanted_21 : decode cX9_wanted 21 = .ok (.getfield 12, 3) := by decide +kernel
theorem dX9_wanted_24 : decode cX9_wanted 24 = .ok (.iload_n 1, 1) := by decide +kernel
theorem dX9_wanted_25 : decode cX9_wanted 25 = .ok (.invokevirtual 98, 3) := by decide +kernel
theorem dX9_wanted_28 : decode cX9_wanted 28 = .ok (.ifCond .eq 12, 3) := by decide +kernel
theorem dX9_wanted_31 : decode cX9_wanted 31 = .ok (.iload_n 2, 1) := by decide +kernel
theorem dX9_wanted_32 : decode cX9_wanted 32 = .ok (.iconst 0, 1) := by decide +kernel
theorem dX9_wanted_33 : decode cX9_wanted 33 = .ok (.iconst 1, 1) := by decide +kernel
theorem dX9_wanted_34 : decode cX9_wanted 34 = .ok (.invokestatic 78, 3) := by decide +kernel
theorem dX9_wanted_37 : decode cX9_wanted 37 = .ok (.ifCond .ne 6, 3) := by decide +kernel
theorem dX9_wanted_40 : decode cX9_wanted 40 = .ok (.ldc 165, 2) := by decide +kernel
theorem dX9_wanted_42 : decode cX9_wanted 42 = .ok (.ireturn, 1) := by decide +kernel
theorem dX9_wanted_43 : decode cX9_wanted 43 = .ok (.aload_n 0, 1) := by decide +kernel
theorem dX9_wanted_44 : decode cX9_wanted 44 = .ok (.getfield 44, 3) := by decide +kernel
theorem dX9_wanted_47 : decode cX9_wanted 47 = .ok (.invokevirtual 139, 3) := by decide +kernel
theorem dX9_wanted_50 : decode cX9_wanted 50 = .ok (.aload_n 0, 1) := by decide +kernel
theorem dX9_wanted_51 : decode cX9_wanted 51 = .ok (.getfield 53, 3) := by decide +kernel
theorem dX9_wanted_54 : decode cX9_wanted 54 = .ok (.invokevirtual 166, 3) := by decide +kernel
theorem dX9_wanted_57 : decode cX9_wanted 57 = .ok (.iload_n 3, 1) := by decide +kernel
theorem dX9_wanted_58 : decode cX9_wanted 58 = .ok (.ifCond .eq 11, 3) := by decide +kernel
theorem dX9_wanted_61 : decode cX9_wanted 61 = .ok (.aload_n 0, 1) := by decide +kernel
theorem dX9_wanted_62 : decode cX9_wanted 62 = .ok (.getfield 53, 3) := by decide +kernel
theorem dX9_wanted_65 : decode cX9_wanted 65 = .ok (.invokevirtual 169, 3) := by decide +kernel
theorem dX9_wanted_68 : decode cX9_wanted 68 = .ok (.ireturn, 1) := by decide +kernel
theorem dX9_wanted_69 : decode cX9_wanted 69 = .ok (.iload_n 2, 1) := by decide +kernel
theorem dX9_wanted_70 : decode cX9_wanted 70 = .ok (.ifCond .ne 14, 3) := by decide +kernel
theorem dX9_wanted_73 : decode cX9_wanted 73 = .ok (.aload_n 0, 1) := by decide +kernel
theorem dX9_wanted_74 : decode cX9_wanted 74 = .ok (.getfield 53, 3) := by decide +kernel
theorem dX9_wanted_77 : decode cX9_wanted 77 = .ok (.iload_n 1, 1) := by decide +kernel
theorem dX9_wanted_78 : decode cX9_wanted 78 = .ok (.invokevirtual 172, 3) := by decide +kernel
theorem dX9_wanted_81 : decode cX9_wanted 81 = .ok (.goto 11, 3) := by decide +kernel
theorem dX9_wanted_84 : decode cX9_wanted 84 = .ok (.aload_n 0, 1) := by decide +kernel
theorem dX9_wanted_85 : decode cX9_wanted 85 = .ok (.getfield 53, 3) := by decide +kernel
theorem dX9_wanted_88 : decode cX9_wanted 88 = .ok (.iload_n 1, 1) := by decide +kernel
theorem dX9_wanted_89 : decode cX9_wanted 89 = .ok (.invokevirtual 175, 3) := by decide +kernel
theorem dX9_wanted_92 : decode cX9_wanted 92 = .ok (.ireturn, 1) := by decide +kernel
theorem dX9_led_0 : decode cX9_led 0 = .ok (.aload_n 0, 1) := by decide +kernel
theorem dX9_led_1 : decode cX9_led 1 = .ok (.getfield 12, 3) := by decide +kernel
theorem dX9_led_4 : decode cX9_led 4 = .ok (.iload_n 1, 1) := by decide +kernel
theorem dX9_led_5 : decode cX9_led 5 = .ok (.invokevirtual 98, 3) := by decide +kernel
theorem dX9_led_8 : decode cX9_led 8 = .ok (.ifCond .eq 14, 3) := by decide +kernel
theorem dX9_led_11 : decode cX9_led 11 = .ok (.aload_n 0, 1) := by decide +kernel
theorem dX9_led_12 : decode cX9_led 12 = .ok (.getfield 12, 3) := by decide +kernel
theorem dX9_led_15 : decode cX9_led 15 = .ok (.iload_n 2, 1) := by decide +kernel
theorem dX9_led_16 : decode cX9_led 16 = .ok (.invokevirtual 112, 3) := by decide +kernel
theorem dX9_led_19 : decode cX9_led 19 = .ok (.ifCond .ne 5, 3) := by decide +kernel
theorem dX9_led_22 : decode cX9_led 22 = .ok (.iconst (-1), 1) := by decide +kernel
theorem dX9_led_23 : decode cX9_led 23 = .ok (.ireturn, 1) := by decide +kernel
theorem dX9_led_24 : decode cX9_led 24 = .ok (.aload_n 0, 1) := by decide +kernel
theorem dX9_led_25 : decode cX9_led 25 = .ok (.getfield 44, 3) := by decide +kernel
theorem dX9_led_28 : decode cX9_led 28 = .ok (.invokevirtual 139, 3) := by decide +kernel
theorem dX9_led_31 : decode cX9_led 31 = .ok (.aload_n 0, 1) := by decide +kernel
theorem dX9_led_32 : decode cX9_led 32 = .ok (.getfield 44, 3) := by decide +kernel
theorem dX9_led_35 : decode cX9_led 35 = .ok (.iload_n 2, 1) := by decide +kernel
theorem dX9_led_36 : decode cX9_led 36 = .ok (.invokevirtual 145, 3) := by decide +kernel
theorem dX9_led_39 : decode cX9_led 39 = .ok (.aload_n 0, 1) := by decide +kernel
theorem dX9_led_40 : decode cX9_led 40 = .ok (.getfield 44, 3) := by decide +kernel
theorem dX9_led_43 : decode cX9_led 43 = .ok (.iload_n 2, 1) := by decide +kernel
theorem dX9_led_44 : decode cX9_led 44 = .ok (.invokevirtual 149, 3) := by decide +kernel
theorem dX9_led_47 : decode cX9_led 47 = .ok (.aload_n 0, 1) := by decide +kernel
theorem dX9_led_48 : decode cX9_led 48 = .ok (.getfield 12, 3) := by decide +kernel
theorem dX9_led_51 : decode cX9_led 51 = .ok (.iconst 4, 1) := by decide +kernel
theorem dX9_led_52 : decode cX9_led 52 = .ok (.iload_n 2, 1) := by decide +kernel
theorem dX9_led_53 : decode cX9_led 53 = .ok (.invokevirtual 115, 3) := by decide +kernel
theorem dX9_led_56 : decode cX9_led 56 = .ok (.aload_n 0, 1) := by decide +kernel
theorem dX9_led_57 : decode cX9_led 57 = .ok (.getfield 12, 3) := by decide +kernel
theorem dX9_led_60 : decode cX9_led 60 = .ok (.aload_n 0, 1) := by decide +kernel
theorem dX9_led_61 : decode cX9_led 61 = .ok (.getfield 44, 3) := by decide +kernel
theorem dX9_led_64 : decode cX9_led 64 = .ok (.getfield 152, 3) := by decide +kernel
theorem dX9_led_67 : decode cX9_led 67 = .ok (.iload_n 1, 1) := by decide +kernel
theorem dX9_led_68 : decode cX9_led 68 = .ok (.invokevirtual 178, 3) := by decide +kernel
theorem dX9_led_71 : decode cX9_led 71 = .ok (.imul, 1) := by decide +kernel
theorem dX9_led_72 : decode cX9_led 72 = .ok (.ireturn, 1) := by decide +kernel
theorem dX9_found_0 : decode cX9_found 0 = .ok (.iload_n 1, 1) := by decide +kernel
theorem dX9_found_1 : decode cX9_found 1 = .ok (.iconst 1, 1) := by decide +kernel
theorem dX9_found_2 : decode cX9_found 2 = .ok (.bipush 60, 2) := by decide +kernel
theorem dX9_found_4 : decode cX9_found 4 = .ok (.invokestatic 78, 3) := by decide +kernel
theorem dX9_found_7 : decode cX9_found 7 = .ok (.ifCond .eq 21, 3) := by decide +kernel
theorem dX9_found_10 : decode cX9_found 10 = .ok (.iload_n 2, 1) := by decide +kernel
theorem dX9_found_11 : decode cX9_found 11 = .ok (.bipush (-4), 2) := by decide +kernel
theorem dX9_found_13 : decode cX9_found 13 = .ok (.aload_n 0, 1) := by decide +kernel
theorem dX9_found_14 : decode cX9_found 14 = .ok (.getfield 12, 3) := by decide +kernel
theorem dX9_found_17 : decode cX9_found 17 = .ok (.getfield 181, 3) := by decide +kernel
theorem dX9_found_20 : decode cX9_found 20 = .ok (.iconst 1, 1) := by decide +kernel
theorem dX9_found_21 : decode cX9_found 21 = .ok (.isub, 1) := by decide +kernel
theorem dX9_found_22 : decode cX9_found 22 = .ok (.invokestatic 78, 3) := by decide +kernel
theorem dX9_found_25 : decode cX9_found 25 = .ok (.ifCond .ne 5, 3) := by decide +kernel
theorem dX9_found_28 : decode cX9_found 28 = .ok (.iconst (-1), 1) := by decide +kernel
theorem dX9_found_29 : decode cX9_found 29 = .ok (.ireturn, 1) := by decide +kernel
theorem dX9_found_30 : decode cX9_found 30 = .ok (.aload_n 0, 1) := by decide +kernel
theorem dX9_found_31 : decode cX9_found 31 = .ok (.getfield 53, 3) := by decide +kernel
theorem dX9_found_34 : decode cX9_found 34 = .ok (.iload_n 1, 1) := by decide +kernel
theorem dX9_found_35 : decode cX9_found 35 = .ok (.invokevirtual 184, 3) := by decide +kernel
theorem dX9_found_38 : decode cX9_found 38 = .ok (.iload_n 2, 1) := by decide +kernel
theorem dX9_found_39 : decode cX9_found 39 = .ok (.tableswitch 61 (-4) (-1) #[53, 45, 37, 29], 29) := by decide +kernel
theorem dX9_found_68 : decode cX9_found 68 = .ok (.aload_n 0, 1) := by decide +kernel
theorem dX9_found_69 : decode cX9_found 69 = .ok (.getfield 53, 3) := by decide +kernel
theorem dX9_found_72 : decode cX9_found 72 = .ok (.getfield 187, 3) := by decide +kernel
theorem dX9_found_75 : decode cX9_found 75 = .ok (.ireturn, 1) := by decide +kernel
theorem dX9_found_76 : decode cX9_found 76 = .ok (.aload_n 0, 1) := by decide +kernel
theorem dX9_found_77 : decode cX9_found 77 = .ok (.getfield 53, 3) := by decide +kernel
theorem dX9_found_80 : decode cX9_found 80 = .ok (.invokevirtual 169, 3) := by decide +kernel
theorem dX9_found_83 : decode cX9_found 83 = .ok (.ireturn, 1) := by decide +kernel
theorem dX9_found_84 : decode cX9_found 84 = .ok (.aload_n 0, 1) := by decide +kernel
theorem dX9_found_85 : decode cX9_found 85 = .ok (.getfield 53, 3) := by decide +kernel
theorem dX9_found_88 : decode cX9_found 88 = .ok (.getfield 190, 3) := by decide +kernel
theorem dX9_found_91 : decode cX9_found 91 = .ok (.ireturn, 1) := by decide +kernel
theorem dX9_found_92 : decode cX9_found 92 = .ok (.aload_n 0, 1) := by decide +kernel
theorem dX9_found_93 : decode cX9_found 93 = .ok (.getfield 53, 3) := by decide +kernel
theorem dX9_found_96 : decode cX9_found 96 = .ok (.getfield 193, 3) := by decide +kernel
theorem dX9_found_99 : decode cX9_found 99 = .ok (.ireturn, 1) := by decide +kernel
theorem dX9_found_100 : decode cX9_found 100 = .ok (.aload_n 0, 1) := by decide +kernel
theorem dX9_found_101 : decode cX9_found 101 = .ok (.getfield 44, 3) := by decide +kernel
theorem dX9_found_104 : decode cX9_found 104 = .ok (.iload_n 2, 1) := by decide +kernel
theorem dX9_found_105 : decode cX9_found 105 = .ok (.invokevirtual 196, 3) := by decide +kernel
theorem dX9_found_108 : decode cX9_found 108 = .ok (.ireturn, 1) := by decide +kernel
theorem dX9_set_0 : decode cX9_set 0 = .ok (.iload_n 1, 1) := by decide +kernel
theorem dX9_set_1 : decode cX9_set 1 = .ok (.iconst 1, 1) := by decide +kernel
theorem dX9_set_2 : decode cX9_set 2 = .ok (.bipush 60, 2) := by decide +kernel
theorem dX9_set_4 : decode cX9_set 4 = .ok (.invokestatic 78, 3) := by decide +kernel
theorem dX9_set_7 : decode cX9_set 7 = .ok (.ifCond .ne 5, 3) := by decide +kernel
theorem dX9_set_10 : decode cX9_set 10 = .ok (.iconst (-1), 1) := by decide +kernel
theorem dX9_set_11 : decode cX9_set 11 = .ok (.ireturn, 1) := by decide +kernel
theorem dX9_set_12 : decode cX9_set 12 = .ok (.aload_n 0, 1) := by decide +kernel
theorem dX9_set_13 : decode cX9_set 13 = .ok (.getfield 53, 3) := by decide +kernel
theorem dX9_set_16 : decode cX9_set 16 = .ok (.iload_n 1, 1) := by decide +kernel
theorem dX9_set_17 : decode cX9_set 17 = .ok (.invokevirtual 184, 3) := by decide +kernel
theorem dX9_set_20 : decode cX9_set 20 = .ok (.iconst 0, 1) := by decide +kernel
theorem dX9_set_21 : decode cX9_set 21 = .ok (.istore_n 2, 1) := by decide +kernel
theorem dX9_set_22 : decode cX9_set 22 = .ok (.iload_n 2, 1) := by decide +kernel
theorem dX9_set_23 : decode cX9_set 23 = .ok (.aload_n 0, 1) := by decide +kernel
theorem dX9_set_24 : decode cX9_set 24 = .ok (.getfield 12, 3) := by decide +kernel
theorem dX9_set_27 : decode cX9_set 27 = .ok (.getfield 181, 3) := by decide +kernel
theorem dX9_set_30 : decode cX9_set 30 = .ok (.if_icmp .ge 27, 3) := by decide +kernel
theorem dX9_set_33 : decode cX9_set 33 = .ok (.aload_n 0, 1) := by decide +kernel
theorem dX9_set_34 : decode cX9_set 34 = .ok (.getfield 21, 3) := by decide +kernel
theorem dX9_set_37 : decode cX9_set 37 = .ok (.iconst 2, 1) := by decide +kernel
theorem dX9_set_38 : decode cX9_set 38 = .ok (.iload_n 2, 1) := by decide +kernel
theorem dX9_set_39 : decode cX9_set 39 = .ok (.aload_n 0, 1) := by decide +kernel
theorem dX9_set_40 : decode cX9_set 40 = .ok (.getfield 53, 3) := by decide +kernel
theorem dX9_set_43 : decode cX9_set 43 = .ok (.iload_n 2, 1) := by decide +kernel
theorem dX9_set_44 : decode cX9_set 44 = .ok (.invokevirtual 199, 3) := by decide +kernel
theorem dX9_set_47 : decode cX9_set 47 = .ok (.invokevirtual 101, 3) := by decide +kernel
theorem dX9_set_50 : decode cX9_set 50 = .ok (.pop, 1) := by decide +kernel
theorem dX9_set_51 : decode cX9_set 51 = .ok (.iinc 2 1, 3) := by decide +kernel
theorem dX9_set_54 : decode cX9_set 54 = .ok (.goto (-32), 3) := by decide +kernel
theorem dX9_set_57 : decode cX9_set 57 = .ok (.aload_n 0, 1) := by decide +kernel
theorem dX9_set_58 : decode cX9_set 58 = .ok (.getfield 53, 3) := by decide +kernel
theorem dX9_set_61 : decode cX9_set 61 = .ok (.getfield 190, 3) := by decide +kernel
theorem dX9_set_64 : decode cX9_set 64 = .ok (.ireturn, 1) := by decide +kernel
theorem dX9_tell_0 : decode cX9_tell 0 = .ok (.aload_n 0, 1) := by decide +kernel
theorem dX9_tell_1 : decode cX9_tell 1 = .ok (.getfield 12, 3) := by decide +kernel
theorem dX9_tell_4 : decode cX9_tell 4 = .ok (.iload_n 1, 1) := by decide +kernel
theorem dX9_tell_5 : decode cX9_tell 5 = .ok (.invokevirtual 112, 3) := by decide +kernel
theorem dX9_tell_8 : decode cX9_tell 8 = .ok (.ifCond .eq 14, 3) := by decide +kernel
theorem dX9_tell_11 : decode cX9_tell 11 = .ok (.aload_n 0, 1) := by decide +kernel
theorem dX9_tell_12 : decode cX9_tell 12 = .ok (.getfield 12, 3) := by decide +kernel
theorem dX9_tell_15 : decode cX9_tell 15 = .ok (.iload_n 2, 1) := by decide +kernel
theorem dX9_tell_16 : decode cX9_tell 16 = .ok (.invokevirtual 202, 3) := by decide +kernel
theorem dX9_tell_19 : decode cX9_tell 19 = .ok (.ifCond .ne 5, 3) := by decide +kernel
theorem dX9_tell_22 : decode cX9_tell 22 = .ok (.iconst (-1), 1) := by decide +kernel
theorem dX9_tell_23 : decode cX9_tell 23 = .ok (.ireturn, 1) := by decide +kernel
theorem dX9_tell_24 : decode cX9_tell 24 = .ok (.aload_n 0, 1) := by decide +kernel
theorem dX9_tell_25 : decode cX9_tell 25 = .ok (.getfield 53, 3) := by decide +kernel
theorem dX9_tell_28 : decode cX9_tell 28 = .ok (.iload_n 1, 1) := by decide +kernel
theorem dX9_tell_29 : decode cX9_tell 29 = .ok (.iload_n 2, 1) := by decide +kernel
theorem dX9_tell_30 : decode cX9_tell 30 = .ok (.invokevirtual 205, 3) := by decide +kernel
theorem dX9_tell_33 : decode cX9_tell 33 = .ok (.ireturn, 1) := by decide +kernel
theorem dX9_judge_0 : decode cX9_judge 0 = .ok (.aload_n 0, 1) := by decide +kernel
theorem dX9_judge_1 : decode cX9_judge 1 = .ok (.getfield 53, 3) := by decide +kernel
theorem dX9_judge_4 : decode cX9_judge 4 = .ok (.invokevirtual 208, 3) := by decide +kernel
theorem dX9_judge_7 : decode cX9_judge 7 = .ok (.ireturn, 1) := by decide +kernel
theorem dX9_changed_0 : decode cX9_changed 0 = .ok (.aload_n 0, 1) := by decide +kernel
theorem dX9_changed_1 : decode cX9_changed 1 = .ok (.getfield 12, 3) := by decide +kernel
theorem dX9_changed_4 : decode cX9_changed 4 = .ok (.iload_n 1, 1) := by decide +kernel
theorem dX9_changed_5 : decode cX9_changed 5 = .ok (.invokevirtual 112, 3) := by decide +kernel
theorem dX9_changed_8 : decode cX9_changed 8 = .ok (.ifCond .eq 22, 3) := by decide +kernel
theorem dX9_changed_11 : decode cX9_changed 11 = .ok (.iload_n 2, 1) := by decide +kernel
theorem dX9_changed_12 : decode cX9_changed 12 = .ok (.iconst 1, 1) := by decide +kernel
theorem dX9_changed_13 : decode cX9_changed 13 = .ok (.bipush 99, 2) := by decide +kernel
theorem dX9_changed_15 : decode cX9_changed 15 = .ok (.invokestatic 78, 3) := by decide +kernel
theorem dX9_changed_18 : decode cX9_changed 18 = .ok (.ifCond .eq 12, 3) := by decide +kernel
theorem dX9_changed_21 : decode cX9_changed 21 = .ok (.iload_n 3, 1) := by decide +kernel
theorem dX9_changed_22 : decode cX9_changed 22 = .ok (.iconst 0, 1) := by decide +kernel
theorem dX9_changed_23 : decode cX9_changed 23 = .ok (.iconst 1, 1) := by decide +kernel
theorem dX9_changed_24 : decode cX9_changed 24 = .ok (.invokestatic 78, 3) := by decide +kernel
theorem dX9_changed_27 : decode cX9_changed 27 = .ok (.ifCond .ne 5, 3) := by decide +kernel
theorem dX9_changed_30 : decode cX9_changed 30 = .ok (.iconst (-1), 1) := by decide +kernel
theorem dX9_changed_31 : decode cX9_changed 31 = .ok (.ireturn, 1) := by decide +kernel
theorem dX9_changed_32 : decode cX9_changed 32 = .ok (.aload_n 0, 1) := by decide +kernel
theorem dX9_changed_33 : decode cX9_changed 33 = .ok (.getfield 60, 3) := by decide +kernel
theorem dX9_changed_36 : decode cX9_changed 36 = .ok (.iload_n 1, 1) := by decide +kernel
theorem dX9_changed_37 : decode cX9_changed 37 = .ok (.iload_n 2, 1) := by decide +kernel
theorem dX9_changed_38 : decode cX9_changed 38 = .ok (.invokevirtual 211, 3) := by decide +kernel
theorem dX9_changed_41 : decode cX9_changed 41 = .ok (.aload_n 0, 1) := by decide +kernel
theorem dX9_changed_42 : decode cX9_changed 42 = .ok (.getfield 44, 3) := by decide +kernel
theorem dX9_changed_45 : decode cX9_changed 45 = .ok (.getfield 156, 3) := by decide +kernel
theorem dX9_changed_48 : decode cX9_changed 48 = .ok (.istore 4, 2) := by decide +kernel
theorem dX9_changed_50 : decode cX9_changed 50 = .ok (.iload_n 3, 1) := by decide +kernel
theorem dX9_changed_51 : decode cX9_changed 51 = .ok (.ifCond .ne 6, 3) := by decide +kernel
theorem dX9_changed_54 : decode cX9_changed 54 = .ok (.iload 4, 2) := by decide +kernel
theorem dX9_changed_56 : decode cX9_changed 56 = .ok (.ireturn, 1) := by decide +kernel
theorem dX9_changed_57 : decode cX9_changed 57 = .ok (.iload 4, 2) := by decide +kernel
theorem dX9_changed_59 : decode cX9_changed 59 = .ok (.aload_n 0, 1) := by decide +kernel
theorem dX9_changed_60 : decode cX9_changed 60 = .ok (.getfield 60, 3) := by decide +kernel
theorem dX9_changed_63 : decode cX9_changed 63 = .ok (.iload_n 1, 1) := by decide +kernel
theorem dX9_changed_64 : decode cX9_changed 64 = .ok (.invokevirtual 215, 3) := by decide +kernel
theorem dX9_changed_67 : decode cX9_changed 67 = .ok (.isub, 1) := by decide +kernel
theorem dX9_changed_68 : decode cX9_changed 68 = .ok (.ireturn, 1) := by decide +kernel
theorem dX9_free_0 : decode cX9_free 0 = .ok (.aload_n 0, 1) := by decide +kernel
theorem dX9_free_1 : decode cX9_free 1 = .ok (.getfield 60, 3) := by decide +kernel
theorem dX9_free_4 : decode cX9_free 4 = .ok (.invokevirtual 218, 3) := by decide +kernel
theorem dX9_free_7 : decode cX9_free 7 = .ok (.istore_n 1, 1) := by decide +kernel
theorem dX9_free_8 : decode cX9_free 8 = .ok (.iconst 1, 1) := by decide +kernel
theorem dX9_free_9 : decode cX9_free 9 = .ok (.istore_n 2, 1) := by decide +kernel
theorem dX9_free_10 : decode cX9_free 10 = .ok (.iload_n 2, 1) := by decide +kernel
theorem dX9_free_11 : decode cX9_free 11 = .ok (.bipush 99, 2) := by decide +kernel
theorem dX9_free_13 : decode cX9_free 13 = .ok (.if_icmp .gt 23, 3) := by decide +kernel
theorem dX9_free_16 : decode cX9_free 16 = .ok (.aload_n 0, 1) := by decide +kernel
theorem dX9_free_17 : decode cX9_free 17 = .ok (.getfield 60, 3) := by decide +kernel
theorem dX9_free_20 : decode cX9_free 20 = .ok (.iload_n 2, 1) := by decide +kernel
theorem dX9_free_21 : decode cX9_free 21 = .ok (.invokevirtual 221, 3) := by decide +kernel
theorem dX9_free_24 : decode cX9_free 24 = .ok (.iload_n 1, 1) := by decide +kernel
theorem dX9_free_25 : decode cX9_free 25 = .ok (.if_icmp .gt 5, 3) := by decide +kernel
theorem dX9_free_28 : decode cX9_free 28 = .ok (.iload_n 2, 1) := by decide +kernel
theorem dX9_free_29 : decode cX9_free 29 = .ok (.ireturn, 1) := by decide +kernel
theorem dX9_free_30 : decode cX9_free 30 = .ok (.iinc 2 1, 3) := by decide +kernel
theorem dX9_free_33 : decode cX9_free 33 = .ok (.goto (-23), 3) := by decide +kernel
theorem dX9_free_36 : decode cX9_free 36 = .ok (.bipush (-2), 2) := by decide +kernel
theorem dX9_free_38 : decode cX9_free 38 = .ok (.ireturn, 1) := by decide +kernel
theorem dX9_black_0 : decode cX9_black 0 = .ok (.aload_n 0, 1) := by decide +kernel
theorem dX9_black_1 : decode cX9_black 1 = .ok (.getfield 12, 3) := by decide +kernel
theorem dX9_black_4 : decode cX9_black 4 = .ok (.iload_n 1, 1) := by decide +kernel
theorem dX9_black_5 : decode cX9_black 5 = .ok (.invokevirtual 112, 3) := by decide +kernel
theorem dX9_black_8 : decode cX9_black 8 = .ok (.ifCond .eq 25, 3) := by decide +kernel
theorem dX9_black_11 : decode cX9_black 11 = .ok (.iload_n 2, 1) := by decide +kernel
theorem dX9_black_12 : decode cX9_black 12 = .ok (.bipush 100, 2) := by decide +kernel
theorem dX9_black_14 : decode cX9_black 14 = .ok (.sipush 9999, 3) := by decide +kernel
theorem dX9_black_17 : decode cX9_black 17 = .ok (.invokestatic 78, 3) := by decide +kernel
theorem dX9_black_20 : decode cX9_black 20 = .ok (.ifCond .eq 13, 3) := by decide +kernel
theorem dX9_black_23 : decode cX9_black 23 = .ok (.iload_n 3, 1) := by decide +kernel
theorem dX9_black_24 : decode cX9_black 24 = .ok (.iconst 0, 1) := by decide +kernel
theorem dX9_black_25 : decode cX9_black 25 = .ok (.bipush 100, 2) := by decide +kernel
theorem dX9_black_27 : decode cX9_black 27 = .ok (.invokestatic 78, 3) := by decide +kernel
theorem dX9_black_30 : decode cX9_black 30 = .ok (.ifCond .ne 5, 3) := by decide +kernel
theorem dX9_black_33 : decode cX9_black 33 = .ok (.iconst (-1), 1) := by decide +kernel
theorem dX9_black_34 : decode cX9_black 34 = .ok (.ireturn, 1) := by decide +kernel
theorem dX9_black_35 : decode cX9_black 35 = .ok (.aload_n 0, 1) := by decide +kernel
theorem dX9_black_36 : decode cX9_black 36 = .ok (.getfield 60, 3) := by decide +kernel
theorem dX9_black_39 : decode cX9_black 39 = .ok (.iload_n 1, 1) := by decide +kernel
theorem dX9_black_40 : decode cX9_black 40 = .ok (.iload_n 2, 1) := by decide +kernel
theorem dX9_black_41 : decode cX9_black 41 = .ok (.bipush 100, 2) := by decide +kernel
theorem dX9_black_43 : decode cX9_black 43 = .ok (.idiv, 1) := by decide +kernel
theorem dX9_black_44 : decode cX9_black 44 = .ok (.iload_n 2, 1) := by decide +kernel
theorem dX9_black_45 : decode cX9_black 45 = .ok (.bipush 100, 2) := by decide +kernel
theorem dX9_black_47 : decode cX9_black 47 = .ok (.irem, 1) := by decide +kernel
theorem dX9_black_48 : decode cX9_black 48 = .ok (.iload_n 3, 1) := by decide +kernel
theorem dX9_black_49 : decode cX9_black 49 = .ok (.invokevirtual 224, 3) := by decide +kernel
theorem dX9_black_52 : decode cX9_black 52 = .ok (.ireturn, 1) := by decide +kernel
theorem dX9_beside_0 : decode cX9_beside 0 = .ok (.aload_n 0, 1) := by decide +kernel
theorem dX9_beside_1 : decode cX9_beside 1 = .ok (.getfield 12, 3) := by decide +kernel
theorem dX9_beside_4 : decode cX9_beside 4 = .ok (.iload_n 1, 1) := by decide +kernel
theorem dX9_beside_5 : decode cX9_beside 5 = .ok (.invokevirtual 112, 3) := by decide +kernel
theorem dX9_beside_8 : decode cX9_beside 8 = .ok (.ifCond .eq 10, 3) := by decide +kernel
theorem dX9_beside_11 : decode cX9_beside 11 = .ok (.iload_n 2, 1) := by decide +kernel
theorem dX9_beside_12 : decode cX9_beside 12 = .ok (.invokestatic 227, 3) := by decide +kernel
theorem dX9_beside_15 : decode cX9_beside 15 = .ok (.ifCond .ne 5, 3) := by decide +kernel
theorem dX9_beside_18 : decode cX9_beside 18 = .ok (.iconst (-1), 1) := by decide +kernel
theorem dX9_beside_19 : decode cX9_beside 19 = .ok (.ireturn, 1) := by decide +kernel
theorem dX9_beside_20 : decode cX9_beside 20 = .ok (.aload_n 0, 1) := by decide +kernel
theorem dX9_beside_21 : decode cX9_beside 21 = .ok (.getfield 60, 3) := by decide +kernel
theorem dX9_beside_24 : decode cX9_beside 24 = .ok (.iload_n 1, 1) := by decide +kernel
theorem dX9_beside_25 : decode cX9_beside 25 = .ok (.iload_n 2, 1) := by decide +kernel
theorem dX9_beside_26 : decode cX9_beside 26 = .ok (.invokevirtual 230, 3) := by decide +kernel
theorem dX9_beside_29 : decode cX9_beside 29 = .ok (.ireturn, 1) := by decide +kernel
theorem dX9_loses_0 : decode cX9_loses 0 = .ok (.iload_n 1, 1) := by decide +kernel
theorem dX9_loses_1 : decode cX9_loses 1 = .ok (.invokestatic 227, 3) := by decide +kernel
theorem dX9_loses_4 : decode cX9_loses 4 = .ok (.ifCond .eq 14, 3) := by decide +kernel
theorem dX9_loses_7 : decode cX9_loses 7 = .ok (.aload_n 0, 1) := by decide +kernel
theorem dX9_loses_8 : decode cX9_loses 8 = .ok (.getfield 60, 3) := by decide +kernel
theorem dX9_loses_11 : decode cX9_loses 11 = .ok (.iload_n 1, 1) := by decide +kernel
theorem dX9_loses_12 : decode cX9_loses 12 = .ok (.invokevirtual 233, 3) := by decide +kernel
theorem dX9_loses_15 : decode cX9_loses 15 = .ok (.goto 4, 3) := by decide +kernel
theorem dX9_loses_18 : decode cX9_loses 18 = .ok (.iconst (-1), 1) := by decide +kernel
theorem dX9_loses_19 : decode cX9_loses 19 = .ok (.ireturn, 1) := by decide +kernel
theorem dX9_fewest_0 : decode cX9_fewest 0 = .ok (.iconst 0, 1) := by decide +kernel
theorem dX9_fewest_1 : decode cX9_fewest 1 = .ok (.istore_n 1, 1) := by decide +kernel
theorem dX9_fewest_2 : decode cX9_fewest 2 = .ok (.iload_n 1, 1) := by decide +kernel
theorem dX9_fewest_3 : decode cX9_fewest 3 = .ok (.aload_n 0, 1) := by decide +kernel
theorem dX9_fewest_4 : decode cX9_fewest 4 = .ok (.getfield 12, 3) := by decide +kernel
theorem dX9_fewest_7 : decode cX9_fewest 7 = .ok (.getfield 181, 3) := by decide +kernel
theorem dX9_fewest_10 : decode cX9_fewest 10 = .ok (.if_icmp .gt 51, 3) := by decide +kernel
theorem dX9_fewest_13 : decode cX9_fewest 13 = .ok (.iconst 0, 1) := by decide +kernel
theorem dX9_fewest_14 : decode cX9_fewest 14 = .ok (.istore_n 2, 1) := by decide +kernel
theorem dX9_fewest_15 : decode cX9_fewest 15 = .ok (.iload_n 2, 1) := by decide +kernel
theorem dX9_fewest_16 : decode cX9_fewest 16 = .ok (.iconst 1, 1) := by decide +kernel
theorem dX9_fewest_17 : decode cX9_fewest 17 = .ok (.aload_n 0, 1) := by decide +kernel
theorem dX9_fewest_18 : decode cX9_fewest 18 = .ok (.getfield 12, 3) := by decide +kernel
theorem dX9_fewest_21 : decode cX9_fewest 21 = .ok (.getfield 181, 3) := by decide +kernel
theorem dX9_fewest_24 : decode cX9_fewest 24 = .ok (.ishl, 1) := by decide +kernel
theorem dX9_fewest_25 : decode cX9_fewest 25 = .ok (.if_icmp .ge 30, 3) := by decide +kernel
theorem dX9_fewest_28 : decode cX9_fewest 28 = .ok (.iload_n 2, 1) := by decide +kernel
theorem dX9_fewest_29 : decode cX9_fewest 29 = .ok (.invokestatic 236, 3) := by decide +kernel
theorem dX9_fewest_32 : decode cX9_fewest 32 = .ok (.iload_n 1, 1) := by decide +kernel
theorem dX9_fewest_33 : decode cX9_fewest 33 = .ok (.if_icmp .ne 16, 3) := by decide +kernel
theorem dX9_fewest_36 : decode cX9_fewest 36 = .ok (.aload_n 0, 1) := by decide +kernel
theorem dX9_fewest_37 : decode cX9_fewest 37 = .ok (.getfield 53, 3) := by decide +kernel
theorem dX9_fewest_40 : decode cX9_fewest 40 = .ok (.iload_n 2, 1) := by decide +kernel
theorem dX9_fewest_41 : decode cX9_fewest 41 = .ok (.invokevirtual 241, 3) := by decide +kernel
theorem dX9_fewest_44 : decode cX9_fewest 44 = .ok (.ifCond .eq 5, 3) := by decide +kernel
theorem dX9_fewest_47 : decode cX9_fewest 47 = .ok (.iload_n 2, 1) := by decide +kernel
theorem dX9_fewest_48 : decode cX9_fewest 48 = .ok (.ireturn, 1) := by decide +kernel
theorem dX9_fewest_49 : decode cX9_fewest 49 = .ok (.iinc 2 1, 3) := by decide +kernel
theorem dX9_fewest_52 : decode cX9_fewest 52 = .ok (.goto (-37), 3) := by decide +kernel
theorem dX9_fewest_55 : decode cX9_fewest 55 = .ok (.iinc 1 1, 3) := by decide +kernel
theorem dX9_fewest_58 : decode cX9_fewest 58 = .ok (.goto (-56), 3) := by decide +kernel
theorem dX9_fewest_61 : decode cX9_fewest 61 = .ok (.bipush (-2), 2) := by decide +kernel
theorem dX9_fewest_63 : decode cX9_fewest 63 = .ok (.ireturn, 1) := by decide +kernel
theorem dX9_least_0 : decode cX9_least 0 = .ok (.aload_n 0, 1) := by decide +kernel
theorem dX9_least_1 : decode cX9_least 1 = .ok (.getfield 12, 3) := by decide +kernel
theorem dX9_least_4 : decode cX9_least 4 = .ok (.iload_n 1, 1) := by decide +kernel
theorem dX9_least_5 : decode cX9_least 5 = .ok (.invokevirtual 98, 3) := by decide +kernel
theorem dX9_least_8 : decode cX9_least 8 = .ok (.ifCond .eq 14, 3) := by decide +kernel
theorem dX9_least_11 : decode cX9_least 11 = .ok (.aload_n 0, 1) := by decide +kernel
theorem dX9_least_12 : decode cX9_least 12 = .ok (.getfield 53, 3) := by decide +kernel
theorem dX9_least_15 : decode cX9_least 15 = .ok (.iload_n 1, 1) := by decide +kernel
theorem dX9_least_16 : decode cX9_least 16 = .ok (.invokevirtual 244, 3) := by decide +kernel
theorem dX9_least_19 : decode cX9_least 19 = .ok (.goto 4, 3) := by decide +kernel
theorem dX9_least_22 : decode cX9_least 22 = .ok (.iconst (-1), 1) := by decide +kernel
theorem dX9_least_23 : decode cX9_least 23 = .ok (.ireturn, 1) := by decide +kernel
theorem dX9_months_0 : decode cX9_months 0 = .ok (.aload_n 0, 1) := by decide +kernel
theorem dX9_months_1 : decode cX9_months 1 = .ok (.getfield 12, 3) := by decide +kernel
theorem dX9_months_4 : decode cX9_months 4 = .ok (.iload_n 1, 1) := by decide +kernel
theorem dX9_months_5 : decode cX9_months 5 = .ok (.invokevirtual 112, 3) := by decide +kernel
theorem dX9_months_8 : decode cX9_months 8 = .ok (.ifCond .eq 33, 3) := by decide +kernel
theorem dX9_months_11 : decode cX9_months 11 = .ok (.iload_n 2, 1) := by decide +kernel
theorem dX9_months_12 : decode cX9_months 12 = .ok (.iconst 1, 1) := by decide +kernel
theorem dX9_months_13 : decode cX9_months 13 = .ok (.bipush 12, 2) := by decide +kernel
theorem dX9_months_15 : decode cX9_months 15 = .ok (.invokestatic 78, 3) := by decide +kernel
theorem dX9_months_18 : decode cX9_months 18 = .ok (.ifCond .eq 23, 3) := by decide +kernel
theorem dX9_months_21 : decode cX9_months 21 = .ok (.iload_n 3, 1) := by decide +kernel
theorem dX9_months_22 : decode cX9_months 22 = .ok (.iconst 0, 1) := by decide +kernel
theorem dX9_months_23 : decode cX9_months 23 = .ok (.bipush 99, 2) := by decide +kernel
theorem dX9_months_25 : decode cX9_months 25 = .ok (.invokestatic 78, 3) := by decide +kernel
theorem dX9_months_28 : decode cX9_months 28 = .ok (.ifCond .eq 13, 3) := by decide +kernel
theorem dX9_months_31 : decode cX9_months 31 = .ok (.iload 4, 2) := by decide +kernel
theorem dX9_months_33 : decode cX9_months 33 = .ok (.iconst 0, 1) := by decide +kernel
theorem dX9_months_34 : decode cX9_months 34 = .ok (.iconst 1, 1) := by decide +kernel
theorem dX9_months_35 : decode cX9_months 35 = .ok (.invokestatic 78, 3) := by decide +kernel
theorem dX9_months_38 : decode cX9_months 38 = .ok (.ifCond .ne 5, 3) := by decide +kernel
theorem dX9_months_41 : decode cX9_months 41 = .ok (.iconst (-1), 1) := by decide +kernel
theorem dX9_months_42 : decode cX9_months 42 = .ok (.ireturn, 1) := by decide +kernel
theorem dX9_months_43 : decode cX9_months 43 = .ok (.aload_n 0, 1) := by decide +kernel
theorem dX9_months_44 : decode cX9_months 44 = .ok (.getfield 60, 3) := by decide +kernel
theorem dX9_months_47 : decode cX9_months 47 = .ok (.iload_n 1, 1) := by decide +kernel
theorem dX9_months_48 : decode cX9_months 48 = .ok (.iload_n 2, 1) := by decide +kernel
theorem dX9_months_49 : decode cX9_months 49 = .ok (.iload_n 3, 1) := by decide +kernel
theorem dX9_months_50 : decode cX9_months 50 = .ok (.invokevirtual 247, 3) := by decide +kernel
theorem dX9_months_53 : decode cX9_months 53 = .ok (.iload 4, 2) := by decide +kernel
theorem dX9_months_55 : decode cX9_months 55 = .ok (.ifCond .ne 13, 3) := by decide +kernel
theorem dX9_months_58 : decode cX9_months 58 = .ok (.aload_n 0, 1) := by decide +kernel
theorem dX9_months_59 : decode cX9_months 59 = .ok (.getfield 60, 3) := by decide +kernel
theorem dX9_months_62 : decode cX9_months 62 = .ok (.getfield 251, 3) := by decide +kernel
theorem dX9_months_65 : decode cX9_months 65 = .ok (.goto 10, 3) := by decide +kernel
theorem dX9_months_68 : decode cX9_months 68 = .ok (.aload_n 0, 1) := by decide +kernel
theorem dX9_months_69 : decode cX9_months 69 = .ok (.getfield 60, 3) := by decide +kernel
theorem dX9_months_72 : decode cX9_months 72 = .ok (.getfield 254, 3) := by decide +kernel
theorem dX9_months_75 : decode cX9_months 75 = .ok (.ireturn, 1) := by decide +kernel
theorem dX9_foresight_0 : decode cX9_foresight 0 = .ok (.aload_n 0, 1) := by decide +kernel
theorem dX9_foresight_1 : decode cX9_foresight 1 = .ok (.getfield 12, 3) := by decide +kernel
theorem dX9_foresight_4 : decode cX9_foresight 4 = .ok (.iload_n 1, 1) := by decide +kernel
theorem dX9_foresight_5 : decode cX9_foresight 5 = .ok (.invokevirtual 112, 3) := by decide +kernel
theorem dX9_foresight_8 : decode cX9_foresight 8 = .ok (.ifCond .eq 14, 3) := by decide +kernel
theorem dX9_foresight_11 : decode cX9_foresight 11 = .ok (.aload_n 0, 1) := by decide +kernel
theorem dX9_foresight_12 : decode cX9_foresight 12 = .ok (.getfield 60, 3) := by decide +kernel
theorem dX9_foresight_15 : decode cX9_foresight 15 = .ok (.iload_n 1, 1) := by decide +kernel
theorem dX9_foresight_16 : decode cX9_foresight 16 = .ok (.invokevirtual 257, 3) := by decide +kernel
theorem dX9_foresight_19 : decode cX9_foresight 19 = .ok (.goto 4, 3) := by decide +kernel
theorem dX9_foresight_22 : decode cX9_foresight 22 = .ok (.iconst (-1), 1) := by decide +kernel
theorem dX9_foresight_23 : decode cX9_foresight 23 = .ok (.ireturn, 1) := by decide +kernel
theorem dX9_cheap_0 : decode cX9_cheap 0 = .ok (.iload_n 1, 1) := by decide +kernel
theorem dX9_cheap_1 : decode cX9_cheap 1 = .ok (.iconst 0, 1) := by decide +kernel
theorem dX9_cheap_2 : decode cX9_cheap 2 = .ok (.bipush 99, 2) := by decide +kernel
theorem dX9_cheap_4 : decode cX9_cheap 4 = .ok (.invokestatic 78, 3) := by decide +kernel
theorem dX9_cheap_7 : decode cX9_cheap 7 = .ok (.ifCond .eq 14, 3) := by decide +kernel
theorem dX9_cheap_10 : decode cX9_cheap 10 = .ok (.aload_n 0, 1) := by decide +kernel
theorem dX9_cheap_11 : decode cX9_cheap 11 = .ok (.getfield 53, 3) := by decide +kernel
theorem dX9_cheap_14 : decode cX9_cheap 14 = .ok (.iload_n 1, 1) := by decide +kernel
theorem dX9_cheap_15 : decode cX9_cheap 15 = .ok (.invokevirtual 260, 3) := by decide +kernel
theorem dX9_cheap_18 : decode cX9_cheap 18 = .ok (.goto 4, 3) := by decide +kernel
theorem dX9_cheap_21 : decode cX9_cheap 21 = .ok (.iconst (-1), 1) := by decide +kernel
theorem dX9_cheap_22 : decode cX9_cheap 22 = .ok (.ireturn, 1) := by decide +kernel
theorem dX9_wrong_0 : decode cX9_wrong 0 = .ok (.iload_n 1, 1) := by decide +kernel
theorem dX9_wrong_1 : decode cX9_wrong 1 = .ok (.iconst 0, 1) := by decide +kernel
theorem dX9_wrong_2 : decode cX9_wrong 2 = .ok (.iconst 2, 1) := by decide +kernel
theorem dX9_wrong_3 : decode cX9_wrong 3 = .ok (.invokestatic 78, 3) := by decide +kernel
theorem dX9_wrong_6 : decode cX9_wrong 6 = .ok (.ifCond .ne 6, 3) := by decide +kernel
theorem dX9_wrong_9 : decode cX9_wrong 9 = .ok (.ldc 165, 2) := by decide +kernel
theorem dX9_wrong_11 : decode cX9_wrong 11 = .ok (.ireturn, 1) := by decide +kernel
theorem dX9_wrong_12 : decode cX9_wrong 12 = .ok (.aload_n 0, 1) := by decide +kernel
theorem dX9_wrong_13 : decode cX9_wrong 13 = .ok (.getfield 53, 3) := by decide +kernel
theorem dX9_wrong_16 : decode cX9_wrong 16 = .ok (.invokevirtual 263, 3) := by decide +kernel
theorem dX9_wrong_19 : decode cX9_wrong 19 = .ok (.istore_n 2, 1) := by decide +kernel
theorem dX9_wrong_20 : decode cX9_wrong 20 = .ok (.iload_n 1, 1) := by decide +kernel
theorem dX9_wrong_21 : decode cX9_wrong 21 = .ok (.ifCond .eq 9, 3) := by decide +kernel
theorem dX9_wrong_24 : decode cX9_wrong 24 = .ok (.iload_n 2, 1) := by decide +kernel
theorem dX9_wrong_25 : decode cX9_wrong 25 = .ok (.bipush (-2), 2) := by decide +kernel
theorem dX9_wrong_27 : decode cX9_wrong 27 = .ok (.if_icmp .ne 5, 3) := by decide +kernel
theorem dX9_wrong_30 : decode cX9_wrong 30 = .ok (.iload_n 2, 1) := by decide +kernel
theorem dX9_wrong_31 : decode cX9_wrong 31 = .ok (.ireturn, 1) := by decide +kernel
theorem dX9_wrong_32 : decode cX9_wrong 32 = .ok (.iload_n 1, 1) := by decide +kernel
theorem dX9_wrong_33 : decode cX9_wrong 33 = .ok (.iconst 1, 1) := by decide +kernel
theorem dX9_wrong_34 : decode cX9_wrong 34 = .ok (.if_icmp .ne 14, 3) := by decide +kernel
theorem dX9_wrong_37 : decode cX9_wrong 37 = .ok (.aload_n 0, 1) := by decide +kernel
theorem dX9_wrong_38 : decode cX9_wrong 38 = .ok (.getfield 53, 3) := by decide +kernel
theorem dX9_wrong_41 : decode cX9_wrong 41 = .ok (.iload_n 2, 1) := by decide +kernel
theorem dX9_wrong_42 : decode cX9_wrong 42 = .ok (.invokevirtual 266, 3) := by decide +kernel
theorem dX9_wrong_45 : decode cX9_wrong 45 = .ok (.goto 15, 3) := by decide +kernel
theorem dX9_wrong_48 : decode cX9_wrong 48 = .ok (.iconst 0, 1) := by decide +kernel
theorem dX9_wrong_49 : decode cX9_wrong 49 = .ok (.aload_n 0, 1) := by decide +kernel
theorem dX9_wrong_50 : decode cX9_wrong 50 = .ok (.getfield 53, 3) := by decide +kernel
theorem dX9_wrong_53 : decode cX9_wrong 53 = .ok (.iload_n 2, 1) := by decide +kernel
theorem dX9_wrong_54 : decode cX9_wrong 54 = .ok (.invokevirtual 175, 3) := by decide +kernel
theorem dX9_wrong_57 : decode cX9_wrong 57 = .ok (.invokestatic 269, 3) := by decide +kernel
theorem dX9_wrong_60 : decode cX9_wrong 60 = .ok (.ireturn, 1) := by decide +kernel
theorem dX9_undo_0 : decode cX9_undo 0 = .ok (.aload_n 0, 1) := by decide +kernel
theorem dX9_undo_1 : decode cX9_undo 1 = .ok (.getfield 21, 3) := by decide +kernel
theorem dX9_undo_4 : decode cX9_undo 4 = .ok (.invokevirtual 272, 3) := by decide +kernel
theorem dX9_undo_7 : decode cX9_undo 7 = .ok (.ireturn, 1) := by decide +kernel
theorem dX9_redo_0 : decode cX9_redo 0 = .ok (.aload_n 0, 1) := by decide +kernel
theorem dX9_redo_1 : decode cX9_redo 1 = .ok (.getfield 21, 3) := by decide +kernel
theorem dX9_redo_4 : decode cX9_redo 4 = .ok (.invokevirtual 275, 3) := by decide +kernel
theorem dX9_redo_7 : decode cX9_redo 7 = .ok (.ireturn, 1) := by decide +kernel
theorem dX9_body_0 : decode cX9_body 0 = .ok (.iload_n 1, 1) := by decide +kernel
theorem dX9_body_1 : decode cX9_body 1 = .ok (.iconst 0, 1) := by decide +kernel
theorem dX9_body_2 : decode cX9_body 2 = .ok (.bipush 7, 2) := by decide +kernel
theorem dX9_body_4 : decode cX9_body 4 = .ok (.invokestatic 78, 3) := by decide +kernel
theorem dX9_body_7 : decode cX9_body 7 = .ok (.ifCond .eq 14, 3) := by decide +kernel
theorem dX9_body_10 : decode cX9_body 10 = .ok (.aload_n 0, 1) := by decide +kernel
theorem dX9_body_11 : decode cX9_body 11 = .ok (.getfield 67, 3) := by decide +kernel
theorem dX9_body_14 : decode cX9_body 14 = .ok (.iload_n 1, 1) := by decide +kernel
theorem dX9_body_15 : decode cX9_body 15 = .ok (.invokevirtual 278, 3) := by decide +kernel
theorem dX9_body_18 : decode cX9_body 18 = .ok (.goto 4, 3) := by decide +kernel
theorem dX9_body_21 : decode cX9_body 21 = .ok (.iconst (-1), 1) := by decide +kernel
theorem dX9_body_22 : decode cX9_body 22 = .ok (.ireturn, 1) := by decide +kernel
theorem dX9_act_0 : decode cX9_act 0 = .ok (.aload_n 0, 1) := by decide +kernel
theorem dX9_act_1 : decode cX9_act 1 = .ok (.getfield 67, 3) := by decide +kernel
theorem dX9_act_4 : decode cX9_act 4 = .ok (.invokevirtual 281, 3) := by decide +kernel
theorem dX9_act_7 : decode cX9_act 7 = .ok (.aload_n 0, 1) := by decide +kernel
theorem dX9_act_8 : decode cX9_act 8 = .ok (.getfield 67, 3) := by decide +kernel
theorem dX9_act_11 : decode cX9_act 11 = .ok (.iload_n 1, 1) := by decide +kernel
theorem dX9_act_12 : decode cX9_act 12 = .ok (.invokevirtual 284, 3) := by decide +kernel
theorem dX9_act_15 : decode cX9_act 15 = .ok (.ifCond .eq 12, 3) := by decide +kernel
theorem dX9_act_18 : decode cX9_act 18 = .ok (.iload_n 2, 1) := by decide +kernel
theorem dX9_act_19 : decode cX9_act 19 = .ok (.iconst 0, 1) := by decide +kernel
theorem dX9_act_20 : decode cX9_act 20 = .ok (.iconst 3, 1) := by decide +kernel
theorem dX9_act_21 : decode cX9_act 21 = .ok (.invokestatic 78, 3) := by decide +kernel
theorem dX9_act_24 : decode cX9_act 24 = .ok (.ifCond .ne 5, 3) := by decide +kernel
theorem dX9_act_27 : decode cX9_act 27 = .ok (.iconst 0, 1) := by decide +kernel
theorem dX9_act_28 : decode cX9_act 28 = .ok (.ireturn, 1) := by decide +kernel
theorem dX9_act_29 : decode cX9_act 29 = .ok (.aload_n 0, 1) := by decide +kernel
theorem dX9_act_30 : decode cX9_act 30 = .ok (.getfield 67, 3) := by decide +kernel
theorem dX9_act_33 : decode cX9_act 33 = .ok (.iload_n 1, 1) := by decide +kernel
theorem dX9_act_34 : decode cX9_act 34 = .ok (.iload_n 2, 1) := by decide +kernel
theorem dX9_act_35 : decode cX9_act 35 = .ok (.iload_n 3, 1) := by decide +kernel
theorem dX9_act_36 : decode cX9_act 36 = .ok (.invokevirtual 287, 3) := by decide +kernel
theorem dX9_act_39 : decode cX9_act 39 = .ok (.ireturn, 1) := by decide +kernel
theorem dX9_trace_0 : decode cX9_trace 0 = .ok (.aload_n 0, 1) := by decide +kernel
theorem dX9_trace_1 : decode cX9_trace 1 = .ok (.getfield 67, 3) := by decide +kernel
theorem dX9_trace_4 : decode cX9_trace 4 = .ok (.iload_n 1, 1) := by decide +kernel
theorem dX9_trace_5 : decode cX9_trace 5 = .ok (.invokevirtual 290, 3) := by decide +kernel
theorem dX9_trace_8 : decode cX9_trace 8 = .ok (.ireturn, 1) := by decide +kernel
theorem dX9_keep_0 : decode cX9_keep 0 = .ok (.aload_n 0, 1) := by decide +kernel
theorem dX9_keep_1 : decode cX9_keep 1 = .ok (.getfield 74, 3) := by decide +kernel
theorem dX9_keep_4 : decode cX9_keep 4 = .ok (.iload_n 1, 1) := by decide +kernel
theorem dX9_keep_5 : decode cX9_keep 5 = .ok (.invokevirtual 86, 3) := by decide +kernel
theorem dX9_keep_8 : decode cX9_keep 8 = .ok (.ifCond .eq 19, 3) := by decide +kernel
theorem dX9_keep_11 : decode cX9_keep 11 = .ok (.iload_n 2, 1) := by decide +kernel
theorem dX9_keep_12 : decode cX9_keep 12 = .ok (.iconst (-1), 1) := by decide +kernel
theorem dX9_keep_13 : decode cX9_keep 13 = .ok (.if_icmp .eq 16, 3) := by decide +kernel
theorem dX9_keep_16 : decode cX9_keep 16 = .ok (.aload_n 0, 1) := by decide +kernel
theorem dX9_keep_17 : decode cX9_keep 17 = .ok (.getfield 67, 3) := by decide +kernel
theorem dX9_keep_20 : decode cX9_keep 20 = .ok (.iload_n 2, 1) := by decide +kernel
theorem dX9_keep_21 : decode cX9_keep 21 = .ok (.invokevirtual 284, 3) := by decide +kernel
theorem dX9_keep_24 : decode cX9_keep 24 = .ok (.ifCond .ne 5, 3) := by decide +kernel
theorem dX9_keep_27 : decode cX9_keep 27 = .ok (.iconst (-1), 1) := by decide +kernel
theorem dX9_keep_28 : decode cX9_keep 28 = .ok (.ireturn, 1) := by decide +kernel
theorem dX9_keep_29 : decode cX9_keep 29 = .ok (.aload_n 0, 1) := by decide +kernel
theorem dX9_keep_30 : decode cX9_keep 30 = .ok (.getfield 74, 3) := by decide +kernel
theorem dX9_keep_33 : decode cX9_keep 33 = .ok (.iload_n 1, 1) := by decide +kernel
theorem dX9_keep_34 : decode cX9_keep 34 = .ok (.iload_n 2, 1) := by decide +kernel
theorem dX9_keep_35 : decode cX9_keep 35 = .ok (.iconst (-1), 1) := by decide +kernel
theorem dX9_keep_36 : decode cX9_keep 36 = .ok (.if_icmp .ne 7, 3) := by decide +kernel
theorem dX9_keep_39 : decode cX9_keep 39 = .ok (.iconst (-1), 1) := by decide +kernel
theorem dX9_keep_40 : decode cX9_keep 40 = .ok (.goto 4, 3) := by decide +kernel
theorem dX9_keep_43 : decode cX9_keep 43 = .ok (.iconst 5, 1) := by decide +kernel
theorem dX9_keep_44 : decode cX9_keep 44 = .ok (.iload_n 2, 1) := by decide +kernel
theorem dX9_keep_45 : decode cX9_keep 45 = .ok (.invokevirtual 293, 3) := by decide +kernel
theorem dX9_keep_48 : decode cX9_keep 48 = .ok (.iconst 1, 1) := by decide +kernel
theorem dX9_keep_49 : decode cX9_keep 49 = .ok (.ireturn, 1) := by decide +kernel
theorem dX9_row_0 : decode cX9_row 0 = .ok (.aload_n 0, 1) := by decide +kernel
theorem dX9_row_1 : decode cX9_row 1 = .ok (.getfield 74, 3) := by decide +kernel
theorem dX9_row_4 : decode cX9_row 4 = .ok (.iload_n 1, 1) := by decide +kernel
theorem dX9_row_5 : decode cX9_row 5 = .ok (.invokevirtual 86, 3) := by decide +kernel
theorem dX9_row_8 : decode cX9_row 8 = .ok (.ifCond .eq 18, 3) := by decide +kernel
theorem dX9_row_11 : decode cX9_row 11 = .ok (.iload_n 2, 1) := by decide +kernel
theorem dX9_row_12 : decode cX9_row 12 = .ok (.iconst 0, 1) := by decide +kernel
theorem dX9_row_13 : decode cX9_row 13 = .ok (.iconst 4, 1) := by decide +kernel
theorem dX9_row_14 : decode cX9_row 14 = .ok (.invokestatic 78, 3) := by decide +kernel
theorem dX9_row_17 : decode cX9_row 17 = .ok (.ifCond .eq 9, 3) := by decide +kernel
theorem dX9_row_20 : decode cX9_row 20 = .ok (.iload_n 3, 1) := by decide +kernel
theorem dX9_row_21 : decode cX9_row 21 = .ok (.bipush 60, 2) := by decide +kernel
theorem dX9_row_23 : decode cX9_row 23 = .ok (.if_icmp .le 5, 3) := by decide +kernel
theorem dX9_row_26 : decode cX9_row 26 = .ok (.iconst (-1), 1) := by decide +kernel
theorem dX9_row_27 : decode cX9_row 27 = .ok (.ireturn, 1) := by decide +kernel
theorem dX9_row_28 : decode cX9_row 28 = .ok (.iload_n 3, 1) := by decide +kernel
theorem dX9_row_29 : decode cX9_row 29 = .ok (.ifCond .ge 6, 3) := by decide +kernel
theorem dX9_row_32 : decode cX9_row 32 = .ok (.bipush (-14), 2) := by decide +kernel
theorem dX9_row_34 : decode cX9_row 34 = .ok (.ireturn, 1) := by decide +kernel
theorem dX9_row_35 : decode cX9_row 35 = .ok (.aload_n 0, 1) := by decide +kernel
theorem dX9_row_36 : decode cX9_row 36 = .ok (.getfield 74, 3) := by decide +kernel
theorem dX9_row_39 : decode cX9_row 39 = .ok (.iload_n 1, 1) := by decide +kernel
theorem dX9_row_40 : decode cX9_row 40 = .ok (.iload_n 2, 1) := by decide +kernel
theorem dX9_row_41 : decode cX9_row 41 = .ok (.iload_n 3, 1) := by decide +kernel
theorem dX9_row_42 : decode cX9_row 42 = .ok (.invokevirtual 293, 3) := by decide +kernel
theorem dX9_row_45 : decode cX9_row 45 = .ok (.iconst 1, 1) := by decide +kernel
theorem dX9_row_46 : decode cX9_row 46 = .ok (.ireturn, 1) := by decide +kernel
theorem dX9_put_0 : decode cX9_put 0 = .ok (.aload_n 0, 1) := by decide +kernel
theorem dX9_put_1 : decode cX9_put 1 = .ok (.getfield 74, 3) := by decide +kernel
theorem dX9_put_4 : decode cX9_put 4 = .ok (.iload_n 1, 1) := by decide +kernel
theorem dX9_put_5 : decode cX9_put 5 = .ok (.iload_n 2, 1) := by decide +kernel
theorem dX9_put_6 : decode cX9_put 6 = .ok (.invokevirtual 296, 3) := by decide +kernel
theorem dX9_put_9 : decode cX9_put 9 = .ok (.istore 5, 2) := by decide +kernel
theorem dX9_put_11 : decode cX9_put 11 = .ok (.iload 5, 2) := by decide +kernel
theorem dX9_put_13 : decode cX9_put 13 = .ok (.ifCond .eq 6, 3) := by decide +kernel
theorem dX9_put_16 : decode cX9_put 16 = .ok (.iload 5, 2) := by decide +kernel
theorem dX9_put_18 : decode cX9_put 18 = .ok (.ireturn, 1) := by decide +kernel
theorem dX9_put_19 : decode cX9_put 19 = .ok (.aload_n 0, 1) := by decide +kernel
theorem dX9_put_20 : decode cX9_put 20 = .ok (.getfield 74, 3) := by decide +kernel
theorem dX9_put_23 : decode cX9_put 23 = .ok (.iload_n 1, 1) := by decide +kernel
theorem dX9_put_24 : decode cX9_put 24 = .ok (.iload_n 2, 1) := by decide +kernel
theorem dX9_put_25 : decode cX9_put 25 = .ok (.lload_n 3, 1) := by decide +kernel
theorem dX9_put_26 : decode cX9_put 26 = .ok (.invokevirtual 299, 3) := by decide +kernel
theorem dX9_put_29 : decode cX9_put 29 = .ok (.iconst 1, 1) := by decide +kernel
theorem dX9_put_30 : decode cX9_put 30 = .ok (.ireturn, 1) := by decide +kernel
theorem dX9_element_0 : decode cX9_element 0 = .ok (.aload_n 0, 1) := by decide +kernel
theorem dX9_element_1 : decode cX9_element 1 = .ok (.getfield 74, 3) := by decide +kernel
theorem dX9_element_4 : decode cX9_element 4 = .ok (.iload_n 1, 1) := by decide +kernel
theorem dX9_element_5 : decode cX9_element 5 = .ok (.iload_n 2, 1) := by decide +kernel
theorem dX9_element_6 : decode cX9_element 6 = .ok (.invokevirtual 296, 3) := by decide +kernel
theorem dX9_element_9 : decode cX9_element 9 = .ok (.ifCond .ne 15, 3) := by decide +kernel
theorem dX9_element_12 : decode cX9_element 12 = .ok (.aload_n 0, 1) := by decide +kernel
theorem dX9_element_13 : decode cX9_element 13 = .ok (.getfield 74, 3) := by decide +kernel
theorem dX9_element_16 : decode cX9_element 16 = .ok (.iload_n 1, 1) := by decide +kernel
theorem dX9_element_17 : decode cX9_element 17 = .ok (.iload_n 2, 1) := by decide +kernel
theorem dX9_element_18 : decode cX9_element 18 = .ok (.invokevirtual 303, 3) := by decide +kernel
theorem dX9_element_21 : decode cX9_element 21 = .ok (.goto 6, 3) := by decide +kernel
theorem dX9_element_24 : decode cX9_element 24 = .ok (.ldc2_w 309, 3) := by decide +kernel
theorem dX9_element_27 : decode cX9_element 27 = .ok (.lreturn, 1) := by decide +kernel
theorem dX9_shift_0 : decode cX9_shift 0 = .ok (.aload_n 0, 1) := by decide +kernel
theorem dX9_shift_1 : decode cX9_shift 1 = .ok (.getfield 74, 3) := by decide +kernel
theorem dX9_shift_4 : decode cX9_shift 4 = .ok (.iload_n 1, 1) := by decide +kernel
theorem dX9_shift_5 : decode cX9_shift 5 = .ok (.iload_n 3, 1) := by decide +kernel
theorem dX9_shift_6 : decode cX9_shift 6 = .ok (.invokevirtual 311, 3) := by decide +kernel
theorem dX9_shift_9 : decode cX9_shift 9 = .ok (.istore 6, 2) := by decide +kernel
theorem dX9_shift_11 : decode cX9_shift 11 = .ok (.iload 6, 2) := by decide +kernel
theorem dX9_shift_13 : decode cX9_shift 13 = .ok (.ifCond .eq 6, 3) := by decide +kernel
theorem dX9_shift_16 : decode cX9_shift 16 = .ok (.iload 6, 2) := by decide +kernel
theorem dX9_shift_18 : decode cX9_shift 18 = .ok (.ireturn, 1) := by decide +kernel
theorem dX9_shift_19 : decode cX9_shift 19 = .ok (.aload_n 0, 1) := by decide +kernel
theorem dX9_shift_20 : decode cX9_shift 20 = .ok (.getfield 74, 3) := by decide +kernel
theorem dX9_shift_23 : decode cX9_shift 23 = .ok (.iload_n 1, 1) := by decide +kernel
theorem dX9_shift_24 : decode cX9_shift 24 = .ok (.iload_n 2, 1) := by decide +kernel
theorem dX9_shift_25 : decode cX9_shift 25 = .ok (.iload 5, 2) := by decide +kernel
theorem dX9_shift_27 : decode cX9_shift 27 = .ok (.invokevirtual 314, 3) := by decide +kernel
theorem dX9_shift_30 : decode cX9_shift 30 = .ok (.ifCond .eq 18, 3) := by decide +kernel
theorem dX9_shift_33 : decode cX9_shift 33 = .ok (.aload_n 0, 1) := by decide +kernel
theorem dX9_shift_34 : decode cX9_shift 34 = .ok (.getfield 74, 3) := by decide +kernel
theorem dX9_shift_37 : decode cX9_shift 37 = .ok (.iload_n 3, 1) := by decide +kernel
theorem dX9_shift_38 : decode cX9_shift 38 = .ok (.iload 4, 2) := by decide +kernel
theorem dX9_shift_40 : decode cX9_shift 40 = .ok (.iload 5, 2) := by decide +kernel
theorem dX9_shift_42 : decode cX9_shift 42 = .ok (.invokevirtual 314, 3) := by decide +kernel
theorem dX9_shift_45 : decode cX9_shift 45 = .ok (.ifCond .ne 6, 3) := by decide +kernel
theorem dX9_shift_48 : decode cX9_shift 48 = .ok (.bipush (-13), 2) := by decide +kernel
theorem dX9_shift_50 : decode cX9_shift 50 = .ok (.ireturn, 1) := by decide +kernel
theorem dX9_shift_51 : decode cX9_shift 51 = .ok (.aload_n 0, 1) := by decide +kernel
theorem dX9_shift_52 : decode cX9_shift 52 = .ok (.getfield 74, 3) := by decide +kernel
theorem dX9_shift_55 : decode cX9_shift 55 = .ok (.iload_n 1, 1) := by decide +kernel
theorem dX9_shift_56 : decode cX9_shift 56 = .ok (.iload_n 2, 1) := by decide +kernel
theorem dX9_shift_57 : decode cX9_shift 57 = .ok (.iload_n 3, 1) := by decide +kernel
theorem dX9_shift_58 : decode cX9_shift 58 = .ok (.iload 4, 2) := by decide +kernel
theorem dX9_shift_60 : decode cX9_shift 60 = .ok (.iload 5, 2) := by decide +kernel
theorem dX9_shift_62 : decode cX9_shift 62 = .ok (.invokevirtual 317, 3) := by decide +kernel
theorem dX9_shift_65 : decode cX9_shift 65 = .ok (.iload 5, 2) := by decide +kernel
theorem dX9_shift_67 : decode cX9_shift 67 = .ok (.ireturn, 1) := by decide +kernel
theorem dX9_taken_0 : decode cX9_taken 0 = .ok (.aload_n 0, 1) := by decide +kernel
theorem dX9_taken_1 : decode cX9_taken 1 = .ok (.getfield 74, 3) := by decide +kernel
theorem dX9_taken_4 : decode cX9_taken 4 = .ok (.iload_n 1, 1) := by decide +kernel
theorem dX9_taken_5 : decode cX9_taken 5 = .ok (.invokevirtual 86, 3) := by decide +kernel
theorem dX9_taken_8 : decode cX9_taken 8 = .ok (.ifCond .eq 13, 3) := by decide +kernel
theorem dX9_taken_11 : decode cX9_taken 11 = .ok (.iload_n 2, 1) := by decide +kernel
theorem dX9_taken_12 : decode cX9_taken 12 = .ok (.iconst 0, 1) := by decide +kernel
theorem dX9_taken_13 : decode cX9_taken 13 = .ok (.bipush 7, 2) := by decide +kernel
theorem dX9_taken_15 : decode cX9_taken 15 = .ok (.invokestatic 78, 3) := by decide +kernel
theorem dX9_taken_18 : decode cX9_taken 18 = .ok (.ifCond .ne 5, 3) := by decide +kernel
theorem dX9_taken_21 : decode cX9_taken 21 = .ok (.iconst (-1), 1) := by decide +kernel
theorem dX9_taken_22 : decode cX9_taken 22 = .ok (.ireturn, 1) := by decide +kernel
theorem dX9_taken_23 : decode cX9_taken 23 = .ok (.aload_n 0, 1) := by decide +kernel
theorem dX9_taken_24 : decode cX9_taken 24 = .ok (.getfield 74, 3) := by decide +kernel
theorem dX9_taken_27 : decode cX9_taken 27 = .ok (.iload_n 1, 1) := by decide +kernel
theorem dX9_taken_28 : decode cX9_taken 28 = .ok (.invokevirtual 90, 3) := by decide +kernel
theorem dX9_taken_31 : decode cX9_taken 31 = .ok (.istore_n 3, 1) := by decide +kernel
theorem dX9_taken_32 : decode cX9_taken 32 = .ok (.iload_n 3, 1) := by decide +kernel
theorem dX9_taken_33 : decode cX9_taken 33 = .ok (.iconst (-1), 1) := by decide +kernel
theorem dX9_taken_34 : decode cX9_taken 34 = .ok (.if_icmp .ne 6, 3) := by decide +kernel
theorem dX9_taken_37 : decode cX9_taken 37 = .ok (.bipush (-11), 2) := by decide +kernel
theorem dX9_taken_39 : decode cX9_taken 39 = .ok (.ireturn, 1) := by decide +kernel
theorem dX9_taken_40 : decode cX9_taken 40 = .ok (.iload_n 3, 1) := by decide +kernel
theorem dX9_taken_41 : decode cX9_taken 41 = .ok (.iconst 5, 1) := by decide +kernel
theorem dX9_taken_42 : decode cX9_taken 42 = .ok (.if_icmp .ne 21, 3) := by decide +kernel
theorem dX9_taken_45 : decode cX9_taken 45 = .ok (.aload_n 0, 1) := by decide +kernel
theorem dX9_taken_46 : decode cX9_taken 46 = .ok (.getfield 67, 3) := by decide +kernel
theorem dX9_taken_49 : decode cX9_taken 49 = .ok (.aload_n 0, 1) := by decide +kernel
theorem dX9_taken_50 : decode cX9_taken 50 = .ok (.getfield 74, 3) := by decide +kernel
theorem dX9_taken_53 : decode cX9_taken 53 = .ok (.iload_n 1, 1) := by decide +kernel
theorem dX9_taken_54 : decode cX9_taken 54 = .ok (.invokevirtual 321, 3) := by decide +kernel
theorem dX9_taken_57 : decode cX9_taken 57 = .ok (.invokevirtual 324, 3) := by decide +kernel
theorem dX9_taken_60 : decode cX9_taken 60 = .ok (.goto 4, 3) := by decide +kernel
theorem dX9_taken_63 : decode cX9_taken 63 = .ok (.iconst (-1), 1) := by decide +kernel
theorem dX9_taken_64 : decode cX9_taken 64 = .ok (.istore 4, 2) := by decide +kernel
theorem dX9_taken_66 : decode cX9_taken 66 = .ok (.aload_n 0, 1) := by decide +kernel
theorem dX9_taken_67 : decode cX9_taken 67 = .ok (.getfield 67, 3) := by decide +kernel
theorem dX9_taken_70 : decode cX9_taken 70 = .ok (.iload 4, 2) := by decide +kernel
theorem dX9_taken_72 : decode cX9_taken 72 = .ok (.iload_n 2, 1) := by decide +kernel
theorem dX9_taken_73 : decode cX9_taken 73 = .ok (.invokevirtual 327, 3) := by decide +kernel
theorem dX9_taken_76 : decode cX9_taken 76 = .ok (.ifCond .eq 8, 3) := by decide +kernel
theorem dX9_taken_79 : decode cX9_taken 79 = .ok (.iload 4, 2) := by decide +kernel
theorem dX9_taken_81 : decode cX9_taken 81 = .ok (.goto 5, 3) := by decide +kernel
theorem dX9_taken_84 : decode cX9_taken 84 = .ok (.bipush (-12), 2) := by decide +kernel
theorem dX9_taken_86 : decode cX9_taken 86 = .ok (.ireturn, 1) := by decide +kernel
theorem dX9_count_0 : decode cX9_count 0 = .ok (.iload_n 1, 1) := by decide +kernel
theorem dX9_count_1 : decode cX9_count 1 = .ok (.tableswitch 99 0 6 #[43, 51, 59, 67, 75, 83, 91], 43) := by decide +kernel
theorem dX9_count_44 : decode cX9_count 44 = .ok (.aload_n 0, 1) := by decide +kernel
theorem dX9_count_45 : decode cX9_count 45 = .ok (.getfield 12, 3) := by decide +kernel
theorem dX9_count_48 : decode cX9_count 48 = .ok (.getfield 181, 3) := by decide +kernel
theorem dX9_count_51 : decode cX9_count 51 = .ok (.ireturn, 1) := by decide +kernel
theorem dX9_count_52 : decode cX9_count 52 = .ok (.aload_n 0, 1) := by decide +kernel
theorem dX9_count_53 : decode cX9_count 53 = .ok (.getfield 12, 3) := by decide +kernel
theorem dX9_count_56 : decode cX9_count 56 = .ok (.getfield 330, 3) := by decide +kernel
theorem dX9_count_59 : decode cX9_count 59 = .ok (.ireturn, 1) := by decide +kernel
theorem dX9_count_60 : decode cX9_count 60 = .ok (.aload_n 0, 1) := by decide +kernel
theorem dX9_count_61 : decode cX9_count 61 = .ok (.getfield 35, 3) := by decide +kernel
theorem dX9_count_64 : decode cX9_count 64 = .ok (.invokevirtual 105, 3) := by decide +kernel
theorem dX9_count_67 : decode cX9_count 67 = .ok (.ireturn, 1) := by decide +kernel
theorem dX9_count_68 : decode cX9_count 68 = .ok (.aload_n 0, 1) := by decide +kernel
theorem dX9_count_69 : decode cX9_count 69 = .ok (.getfield 28, 3) := by decide +kernel
theorem dX9_count_72 : decode cX9_count 72 = .ok (.getfield 333, 3) := by decide +kernel
theorem dX9_count_75 : decode cX9_count 75 = .ok (.ireturn, 1) := by decide +kernel
theorem dX9_count_76 : decode cX9_count 76 = .ok (.aload_n 0, 1) := by decide +kernel
theorem dX9_count_77 : decode cX9_count 77 = .ok (.getfield 21, 3) := by decide +kernel
theorem dX9_count_80 : decode cX9_count 80 = .ok (.getfield 336, 3) := by decide +kernel
theorem dX9_count_83 : decode cX9_count 83 = .ok (.ireturn, 1) := by decide +kernel
theorem dX9_count_84 : decode cX9_count 84 = .ok (.aload_n 0, 1) := by decide +kernel
theorem dX9_count_85 : decode cX9_count 85 = .ok (.getfield 67, 3) := by decide +kernel
theorem dX9_count_88 : decode cX9_count 88 = .ok (.getfield 339, 3) := by decide +kernel
theorem dX9_count_91 : decode cX9_count 91 = .ok (.ireturn, 1) := by decide +kernel
theorem dX9_count_92 : decode cX9_count 92 = .ok (.aload_n 0, 1) := by decide +kernel
theorem dX9_count_93 : decode cX9_count 93 = .ok (.getfield 67, 3) := by decide +kernel
theorem dX9_count_96 : decode cX9_count 96 = .ok (.getfield 342, 3) := by decide +kernel
theorem dX9_count_99 : decode cX9_count 99 = .ok (.ireturn, 1) := by decide +kernel
theorem dX9_count_100 : decode cX9_count 100 = .ok (.iconst (-1), 1) := by decide +kernel
theorem dX9_count_101 : decode cX9_count 101 = .ok (.ireturn, 1) := by decide +kernel
theorem dX9_comesFrom_0 : decode cX9_comesFrom 0 = .ok (.aload_n 0, 1) := by decide +kernel
theorem dX9_comesFrom_1 : decode cX9_comesFrom 1 = .ok (.getfield 74, 3) := by decide +kernel
theorem dX9_comesFrom_4 : decode cX9_comesFrom 4 = .ok (.iload_n 1, 1) := by decide +kernel
theorem dX9_comesFrom_5 : decode cX9_comesFrom 5 = .ok (.iload_n 2, 1) := by decide +kernel
theorem dX9_comesFrom_6 : decode cX9_comesFrom 6 = .ok (.iconst 4, 1) := by decide +kernel
theorem dX9_comesFrom_7 : decode cX9_comesFrom 7 = .ok (.invokevirtual 314, 3) := by decide +kernel
theorem dX9_comesFrom_10 : decode cX9_comesFrom 10 = .ok (.ifCond .ne 5, 3) := by decide +kernel
theorem dX9_comesFrom_13 : decode cX9_comesFrom 13 = .ok (.iconst 0, 1) := by decide +kernel
theorem dX9_comesFrom_14 : decode cX9_comesFrom 14 = .ok (.ireturn, 1) := by decide +kernel
theorem dX9_comesFrom_15 : decode cX9_comesFrom 15 = .ok (.aload_n 0, 1) := by decide +kernel
theorem dX9_comesFrom_16 : decode cX9_comesFrom 16 = .ok (.getfield 74, 3) := by decide +kernel
theorem dX9_comesFrom_19 : decode cX9_comesFrom 19 = .ok (.iload_n 1, 1) := by decide +kernel
theorem dX9_comesFrom_20 : decode cX9_comesFrom 20 = .ok (.iload_n 2, 1) := by decide +kernel
theorem dX9_comesFrom_21 : decode cX9_comesFrom 21 = .ok (.invokevirtual 303, 3) := by decide +kernel
theorem dX9_comesFrom_24 : decode cX9_comesFrom 24 = .ok (.l2i, 1) := by decide +kernel
theorem dX9_comesFrom_25 : decode cX9_comesFrom 25 = .ok (.istore_n 3, 1) := by decide +kernel
theorem dX9_comesFrom_26 : decode cX9_comesFrom 26 = .ok (.aload_n 0, 1) := by decide +kernel
theorem dX9_comesFrom_27 : decode cX9_comesFrom 27 = .ok (.getfield 74, 3) := by decide +kernel
theorem dX9_comesFrom_30 : decode cX9_comesFrom 30 = .ok (.iload_n 1, 1) := by decide +kernel
theorem dX9_comesFrom_31 : decode cX9_comesFrom 31 = .ok (.iload_n 2, 1) := by decide +kernel
theorem dX9_comesFrom_32 : decode cX9_comesFrom 32 = .ok (.iconst 1, 1) := by decide +kernel
theorem dX9_comesFrom_33 : decode cX9_comesFrom 33 = .ok (.iadd, 1) := by decide +kernel
theorem dX9_comesFrom_34 : decode cX9_comesFrom 34 = .ok (.invokevirtual 303, 3) := by decide +kernel
theorem dX9_comesFrom_37 : decode cX9_comesFrom 37 = .ok (.l2i, 1) := by decide +kernel
theorem dX9_comesFrom_38 : decode cX9_comesFrom 38 = .ok (.istore 4, 2) := by decide +kernel
theorem dX9_comesFrom_40 : decode cX9_comesFrom 40 = .ok (.aload_n 0, 1) := by decide +kernel
theorem dX9_comesFrom_41 : decode cX9_comesFrom 41 = .ok (.getfield 74, 3) := by decide +kernel
theorem dX9_comesFrom_44 : decode cX9_comesFrom 44 = .ok (.iload_n 1, 1) := by decide +kernel
theorem dX9_comesFrom_45 : decode cX9_comesFrom 45 = .ok (.iload_n 2, 1) := by decide +kernel
theorem dX9_comesFrom_46 : decode cX9_comesFrom 46 = .ok (.iconst 2, 1) := by decide +kernel
theorem dX9_comesFrom_47 : decode cX9_comesFrom 47 = .ok (.iadd, 1) := by decide +kernel
theorem dX9_comesFrom_48 : decode cX9_comesFrom 48 = .ok (.invokevirtual 303, 3) := by decide +kernel
theorem dX9_comesFrom_51 : decode cX9_comesFrom 51 = .ok (.l2i, 1) := by decide +kernel
theorem dX9_comesFrom_52 : decode cX9_comesFrom 52 = .ok (.istore 5, 2) := by decide +kernel
theorem dX9_comesFrom_54 : decode cX9_comesFrom 54 = .ok (.aload_n 0, 1) := by decide +kernel
theorem dX9_comesFrom_55 : decode cX9_comesFrom 55 = .ok (.getfield 74, 3) := by decide +kernel
theorem dX9_comesFrom_58 : decode cX9_comesFrom 58 = .ok (.iload_n 1, 1) := by decide +kernel
theorem dX9_comesFrom_59 : decode cX9_comesFrom 59 = .ok (.iload_n 2, 1) := by decide +kernel
theorem dX9_comesFrom_60 : decode cX9_comesFrom 60 = .ok (.iconst 3, 1) := by decide +kernel
theorem dX9_comesFrom_61 : decode cX9_comesFrom 61 = .ok (.iadd, 1) := by decide +kernel
theorem dX9_comesFrom_62 : decode cX9_comesFrom 62 = .ok (.invokevirtual 303, 3) := by decide +kernel
theorem dX9_comesFrom_65 : decode cX9_comesFrom 65 = .ok (.l2i, 1) := by decide +kernel
theorem dX9_comesFrom_66 : decode cX9_comesFrom 66 = .ok (.istore 6, 2) := by decide +kernel
theorem dX9_comesFrom_68 : decode cX9_comesFrom 68 = .ok (.iload_n 3, 1) := by decide +kernel
theorem dX9_comesFrom_69 : decode cX9_comesFrom 69 = .ok (.iconst 0, 1) := by decide +kernel
theorem dX9_comesFrom_70 : decode cX9_comesFrom 70 = .ok (.sipush 999, 3) := by decide +kernel
theorem dX9_comesFrom_73 : decode cX9_comesFrom 73 = .ok (.invokestatic 78, 3) := by decide +kernel
theorem dX9_comesFrom_76 : decode cX9_comesFrom 76 = .ok (.ifCond .eq 40, 3) := by decide +kernel
theorem dX9_comesFrom_79 : decode cX9_comesFrom 79 = .ok (.iload 4, 2) := by decide +kernel
theorem dX9_comesFrom_81 : decode cX9_comesFrom 81 = .ok (.iconst 0, 1) := by decide +kernel
theorem dX9_comesFrom_82 : decode cX9_comesFrom 82 = .ok (.bipush 99, 2) := by decide +kernel
theorem dX9_comesFrom_84 : decode cX9_comesFrom 84 = .ok (.invokestatic 78, 3) := by decide +kernel
theorem dX9_comesFrom_87 : decode cX9_comesFrom 87 = .ok (.ifCond .eq 29, 3) := by decide +kernel
theorem dX9_comesFrom_90 : decode cX9_comesFrom 90 = .ok (.iload 5, 2) := by decide +kernel
theorem dX9_comesFrom_92 : decode cX9_comesFrom 92 = .ok (.iconst 0, 1) := by decide +kernel
theorem dX9_comesFrom_93 : decode cX9_comesFrom 93 = .ok (.bipush 99, 2) := by decide +kernel
theorem dX9_comesFrom_95 : decode cX9_comesFrom 95 = .ok (.invokestatic 78, 3) := by decide +kernel
theorem dX9_comesFrom_98 : decode cX9_comesFrom 98 = .ok (.ifCond .eq 18, 3) := by decide +kernel
theorem dX9_comesFrom_101 : decode cX9_comesFrom 101 = .ok (.iload 6, 2) := by decide +kernel
theorem dX9_comesFrom_103 : decode cX9_comesFrom 103 = .ok (.iconst 0, 1) := by decide +kernel
theorem dX9_comesFrom_104 : decode cX9_comesFrom 104 = .ok (.bipush 99, 2) := by decide +kernel
theorem dX9_comesFrom_106 : decode cX9_comesFrom 106 = .ok (.invokestatic 78, 3) := by decide +kernel
theorem dX9_comesFrom_109 : decode cX9_comesFrom 109 = .ok (.ifCond .eq 7, 3) := by decide +kernel
theorem dX9_comesFrom_112 : decode cX9_comesFrom 112 = .ok (.iconst 1, 1) := by decide +kernel
theorem dX9_comesFrom_113 : decode cX9_comesFrom 113 = .ok (.goto 4, 3) := by decide +kernel
theorem dX9_comesFrom_116 : decode cX9_comesFrom 116 = .ok (.iconst 0, 1) := by decide +kernel
theorem dX9_comesFrom_117 : decode cX9_comesFrom 117 = .ok (.istore 7, 2) := by decide +kernel
theorem dX9_comesFrom_119 : decode cX9_comesFrom 119 = .ok (.iload 7, 2) := by decide +kernel
theorem dX9_comesFrom_121 : decode cX9_comesFrom 121 = .ok (.ifCond .eq 26, 3) := by decide +kernel
theorem dX9_comesFrom_124 : decode cX9_comesFrom 124 = .ok (.aload_n 0, 1) := by decide +kernel
theorem dX9_comesFrom_125 : decode cX9_comesFrom 125 = .ok (.getfield 12, 3) := by decide +kernel
theorem dX9_comesFrom_128 : decode cX9_comesFrom 128 = .ok (.iload_n 3, 1) := by decide +kernel
theorem dX9_comesFrom_129 : decode cX9_comesFrom 129 = .ok (.iload 4, 2) := by decide +kernel
theorem dX9_comesFrom_131 : decode cX9_comesFrom 131 = .ok (.iload 5, 2) := by decide +kernel
theorem dX9_comesFrom_133 : decode cX9_comesFrom 133 = .ok (.iload 6, 2) := by decide +kernel
theorem dX9_comesFrom_135 : decode cX9_comesFrom 135 = .ok (.invokevirtual 82, 3) := by decide +kernel
theorem dX9_comesFrom_138 : decode cX9_comesFrom 138 = .ok (.bipush (-3), 2) := by decide +kernel
theorem dX9_comesFrom_140 : decode cX9_comesFrom 140 = .ok (.if_icmp .eq 7, 3) := by decide +kernel
theorem dX9_comesFrom_143 : decode cX9_comesFrom 143 = .ok (.iconst 1, 1) := by decide +kernel
theorem dX9_comesFrom_144 : decode cX9_comesFrom 144 = .ok (.goto 4, 3) := by decide +kernel
theorem dX9_comesFrom_147 : decode cX9_comesFrom 147 = .ok (.iconst 0, 1) := by decide +kernel
theorem dX9_comesFrom_148 : decode cX9_comesFrom 148 = .ok (.ireturn, 1) := by decide +kernel
theorem dX9_isShare_0 : decode cX9_isShare 0 = .ok (.iload_n 0, 1) := by decide +kernel
theorem dX9_isShare_1 : decode cX9_isShare 1 = .ok (.ifCond .eq 15, 3) := by decide +kernel
theorem dX9_isShare_4 : decode cX9_isShare 4 = .ok (.iload_n 0, 1) := by decide +kernel
theorem dX9_isShare_5 : decode cX9_isShare 5 = .ok (.bipush 100, 2) := by decide +kernel
theorem dX9_isShare_7 : decode cX9_isShare 7 = .ok (.sipush 900, 3) := by decide +kernel
theorem dX9_isShare_10 : decode cX9_isShare 10 = .ok (.invokestatic 78, 3) := by decide +kernel
theorem dX9_isShare_13 : decode cX9_isShare 13 = .ok (.ifCond .eq 7, 3) := by decide +kernel
theorem dX9_isShare_16 : decode cX9_isShare 16 = .ok (.iconst 1, 1) := by decide +kernel
theorem dX9_isShare_17 : decode cX9_isShare 17 = .ok (.goto 4, 3) := by decide +kernel
theorem dX9_isShare_20 : decode cX9_isShare 20 = .ok (.iconst 0, 1) := by decide +kernel
theorem dX9_isShare_21 : decode cX9_isShare 21 = .ok (.ireturn, 1) := by decide +kernel
theorem dX9_isWithin_0 : decode cX9_isWithin 0 = .ok (.iload_n 0, 1) := by decide +kernel
theorem dX9_isWithin_1 : decode cX9_isWithin 1 = .ok (.iload_n 1, 1) := by decide +kernel
theorem dX9_isWithin_2 : decode cX9_isWithin 2 = .ok (.if_icmp .lt 12, 3) := by decide +kernel
theorem dX9_isWithin_5 : decode cX9_isWithin 5 = .ok (.iload_n 0, 1) := by decide +kernel
theorem dX9_isWithin_6 : decode cX9_isWithin 6 = .ok (.iload_n 2, 1) := by decide +kernel
theorem dX9_isWithin_7 : decode cX9_isWithin 7 = .ok (.if_icmp .gt 7, 3) := by decide +kernel
theorem dX9_isWithin_10 : decode cX9_isWithin 10 = .ok (.iconst 1, 1) := by decide +kernel
theorem dX9_isWithin_11 : decode cX9_isWithin 11 = .ok (.goto 4, 3) := by decide +kernel
theorem dX9_isWithin_14 : decode cX9_isWithin 14 = .ok (.iconst 0, 1) := by decide +kernel
theorem dX9_isWithin_15 : decode cX9_isWithin 15 = .ok (.ireturn, 1) := by decide +kernel
