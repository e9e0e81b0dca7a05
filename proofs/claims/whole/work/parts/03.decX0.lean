theorem dX0_init_0 : decode cX0_init 0 = .ok (.aload_n 0, 1) := by decide +kernel
theorem dX0_init_1 : decode cX0_init 1 = .ok (.invokespecial 3, 3) := by decide +kernel
theorem dX0_init_4 : decode cX0_init 4 = .ok (.aload_n 0, 1) := by decide +kernel
theorem dX0_init_5 : decode cX0_init 5 = .ok (.iload_n 1, 1) := by decide +kernel
theorem dX0_init_6 : decode cX0_init 6 = .ok (.putfield 9, 3) := by decide +kernel
theorem dX0_init_9 : decode cX0_init 9 = .ok (.return_, 1) := by decide +kernel
theorem dX0_copyFrom_0 : decode cX0_copyFrom 0 = .ok (.aload_n 0, 1) := by decide +kernel
theorem dX0_copyFrom_1 : decode cX0_copyFrom 1 = .ok (.aload_n 1, 1) := by decide +kernel
theorem dX0_copyFrom_2 : decode cX0_copyFrom 2 = .ok (.getfield 15, 3) := by decide +kernel
theorem dX0_copyFrom_5 : decode cX0_copyFrom 5 = .ok (.putfield 15, 3) := by decide +kernel
theorem dX0_copyFrom_8 : decode cX0_copyFrom 8 = .ok (.aload_n 0, 1) := by decide +kernel
theorem dX0_copyFrom_9 : decode cX0_copyFrom 9 = .ok (.aload_n 1, 1) := by decide +kernel
theorem dX0_copyFrom_10 : decode cX0_copyFrom 10 = .ok (.getfield 18, 3) := by decide +kernel
theorem dX0_copyFrom_13 : decode cX0_copyFrom 13 = .ok (.putfield 18, 3) := by decide +kernel
theorem dX0_copyFrom_16 : decode cX0_copyFrom 16 = .ok (.aload_n 0, 1) := by decide +kernel
theorem dX0_copyFrom_17 : decode cX0_copyFrom 17 = .ok (.aload_n 1, 1) := by decide +kernel
theorem dX0_copyFrom_18 : decode cX0_copyFrom 18 = .ok (.getfield 21, 3) := by decide +kernel
theorem dX0_copyFrom_21 : decode cX0_copyFrom 21 = .ok (.putfield 21, 3) := by decide +kernel
theorem dX0_copyFrom_24 : decode cX0_copyFrom 24 = .ok (.aload_n 0, 1) := by decide +kernel
theorem dX0_copyFrom_25 : decode cX0_copyFrom 25 = .ok (.aload_n 1, 1) := by decide +kernel
theorem dX0_copyFrom_26 : decode cX0_copyFrom 26 = .ok (.getfield 24, 3) := by decide +kernel
theorem dX0_copyFrom_29 : decode cX0_copyFrom 29 = .ok (.putfield 24, 3) := by decide +kernel
theorem dX0_copyFrom_32 : decode cX0_copyFrom 32 = .ok (.aload_n 0, 1) := by decide +kernel
theorem dX0_copyFrom_33 : decode cX0_copyFrom 33 = .ok (.aload_n 1, 1) := by decide +kernel
theorem dX0_copyFrom_34 : decode cX0_copyFrom 34 = .ok (.getfield 28, 3) := by decide +kernel
theorem dX0_copyFrom_37 : decode cX0_copyFrom 37 = .ok (.putfield 28, 3) := by decide +kernel
theorem dX0_copyFrom_40 : decode cX0_copyFrom 40 = .ok (.aload_n 0, 1) := by decide +kernel
theorem dX0_copyFrom_41 : decode cX0_copyFrom 41 = .ok (.aload_n 1, 1) := by decide +kernel
theorem dX0_copyFrom_42 : decode cX0_copyFrom 42 = .ok (.getfield 31, 3) := by decide +kernel
theorem dX0_copyFrom_45 : decode cX0_copyFrom 45 = .ok (.putfield 31, 3) := by decide +kernel
theorem dX0_copyFrom_48 : decode cX0_copyFrom 48 = .ok (.aload_n 0, 1) := by decide +kernel
theorem dX0_copyFrom_49 : decode cX0_copyFrom 49 = .ok (.aload_n 1, 1) := by decide +kernel
theorem dX0_copyFrom_50 : decode cX0_copyFrom 50 = .ok (.getfield 34, 3) := by decide +kernel
theorem dX0_copyFrom_53 : decode cX0_copyFrom 53 = .ok (.putfield 34, 3) := by decide +kernel
theorem dX0_copyFrom_56 : decode cX0_copyFrom 56 = .ok (.aload_n 0, 1) := by decide +kernel
theorem dX0_copyFrom_57 : decode cX0_copyFrom 57 = .ok (.aload_n 1, 1) := by decide +kernel
theorem dX0_copyFrom_58 : decode cX0_copyFrom 58 = .ok (.getfield 37, 3) := by decide +kernel
theorem dX0_copyFrom_61 : decode cX0_copyFrom 61 = .ok (.putfield 37, 3) := by decide +kernel
theorem dX0_copyFrom_64 : decode cX0_copyFrom 64 = .ok (.aload_n 0, 1) := by decide +kernel
theorem dX0_copyFrom_65 : decode cX0_copyFrom 65 = .ok (.aload_n 1, 1) := by decide +kernel
theorem dX0_copyFrom_66 : decode cX0_copyFrom 66 = .ok (.getfield 40, 3) := by decide +kernel
theorem dX0_copyFrom_69 : decode cX0_copyFrom 69 = .ok (.putfield 40, 3) := by decide +kernel
theorem dX0_copyFrom_72 : decode cX0_copyFrom 72 = .ok (.aload_n 0, 1) := by decide +kernel
theorem dX0_copyFrom_73 : decode cX0_copyFrom 73 = .ok (.aload_n 1, 1) := by decide +kernel
theorem dX0_copyFrom_74 : decode cX0_copyFrom 74 = .ok (.getfield 43, 3) := by decide +kernel
theorem dX0_copyFrom_77 : decode cX0_copyFrom 77 = .ok (.putfield 43, 3) := by decide +kernel
theorem dX0_copyFrom_80 : decode cX0_copyFrom 80 = .ok (.aload_n 0, 1) := by decide +kernel
theorem dX0_copyFrom_81 : decode cX0_copyFrom 81 = .ok (.aload_n 1, 1) := by decide +kernel
theorem dX0_copyFrom_82 : decode cX0_copyFrom 82 = .ok (.getfield 46, 3) := by decide +kernel
theorem dX0_copyFrom_85 : decode cX0_copyFrom 85 = .ok (.putfield 46, 3) := by decide +kernel
theorem dX0_copyFrom_88 : decode cX0_copyFrom 88 = .ok (.aload_n 0, 1) := by decide +kernel
theorem dX0_copyFrom_89 : decode cX0_copyFrom 89 = .ok (.aload_n 1, 1) := by decide +kernel
theorem dX0_copyFrom_90 : decode cX0_copyFrom 90 = .ok (.getfield 49, 3) := by decide +kernel
theorem dX0_copyFrom_93 : decode cX0_copyFrom 93 = .ok (.putfield 49, 3) := by decide +kernel
theorem dX0_copyFrom_96 : decode cX0_copyFrom 96 = .ok (.aload_n 0, 1) := by decide +kernel
theorem dX0_copyFrom_97 : decode cX0_copyFrom 97 = .ok (.aload_n 1, 1) := by decide +kernel
theorem dX0_copyFrom_98 : decode cX0_copyFrom 98 = .ok (.getfield 52, 3) := by decide +kernel
theorem dX0_copyFrom_101 : decode cX0_copyFrom 101 = .ok (.putfield 52, 3) := by decide +kernel
theorem dX0_copyFrom_104 : decode cX0_copyFrom 104 = .ok (.aload_n 0, 1) := by decide +kernel
theorem dX0_copyFrom_105 : decode cX0_copyFrom 105 = .ok (.aload_n 1, 1) := by decide +kernel
theorem dX0_copyFrom_106 : decode cX0_copyFrom 106 = .ok (.getfield 55, 3) := by decide +kernel
theorem dX0_copyFrom_109 : decode cX0_copyFrom 109 = .ok (.putfield 55, 3) := by decide +kernel
theorem dX0_copyFrom_112 : decode cX0_copyFrom 112 = .ok (.return_, 1) := by decide +kernel
theorem dX0_beNew_0 : decode cX0_beNew 0 = .ok (.aload_n 0, 1) := by decide +kernel
theorem dX0_beNew_1 : decode cX0_beNew 1 = .ok (.iload_n 1, 1) := by decide +kernel
theorem dX0_beNew_2 : decode cX0_beNew 2 = .ok (.putfield 15, 3) := by decide +kernel
theorem dX0_beNew_5 : decode cX0_beNew 5 = .ok (.aload_n 0, 1) := by decide +kernel
theorem dX0_beNew_6 : decode cX0_beNew 6 = .ok (.bipush (-2), 2) := by decide +kernel
theorem dX0_beNew_8 : decode cX0_beNew 8 = .ok (.putfield 18, 3) := by decide +kernel
theorem dX0_beNew_11 : decode cX0_beNew 11 = .ok (.aload_n 0, 1) := by decide +kernel
theorem dX0_beNew_12 : decode cX0_beNew 12 = .ok (.iload_n 3, 1) := by decide +kernel
theorem dX0_beNew_13 : decode cX0_beNew 13 = .ok (.putfield 21, 3) := by decide +kernel
theorem dX0_beNew_16 : decode cX0_beNew 16 = .ok (.aload_n 0, 1) := by decide +kernel
theorem dX0_beNew_17 : decode cX0_beNew 17 = .ok (.iconst 1, 1) := by decide +kernel
theorem dX0_beNew_18 : decode cX0_beNew 18 = .ok (.putfield 24, 3) := by decide +kernel
theorem dX0_beNew_21 : decode cX0_beNew 21 = .ok (.aload_n 0, 1) := by decide +kernel
theorem dX0_beNew_22 : decode cX0_beNew 22 = .ok (.sipush 4096, 3) := by decide +kernel
theorem dX0_beNew_25 : decode cX0_beNew 25 = .ok (.putfield 28, 3) := by decide +kernel
theorem dX0_beNew_28 : decode cX0_beNew 28 = .ok (.aload_n 0, 1) := by decide +kernel
theorem dX0_beNew_29 : decode cX0_beNew 29 = .ok (.iload_n 2, 1) := by decide +kernel
theorem dX0_beNew_30 : decode cX0_beNew 30 = .ok (.invokevirtual 58, 3) := by decide +kernel
theorem dX0_beNew_33 : decode cX0_beNew 33 = .ok (.aload_n 0, 1) := by decide +kernel
theorem dX0_beNew_34 : decode cX0_beNew 34 = .ok (.iconst 0, 1) := by decide +kernel
theorem dX0_beNew_35 : decode cX0_beNew 35 = .ok (.putfield 40, 3) := by decide +kernel
theorem dX0_beNew_38 : decode cX0_beNew 38 = .ok (.aload_n 0, 1) := by decide +kernel
theorem dX0_beNew_39 : decode cX0_beNew 39 = .ok (.iconst 0, 1) := by decide +kernel
theorem dX0_beNew_40 : decode cX0_beNew 40 = .ok (.putfield 43, 3) := by decide +kernel
theorem dX0_beNew_43 : decode cX0_beNew 43 = .ok (.aload_n 0, 1) := by decide +kernel
theorem dX0_beNew_44 : decode cX0_beNew 44 = .ok (.iconst 0, 1) := by decide +kernel
theorem dX0_beNew_45 : decode cX0_beNew 45 = .ok (.putfield 46, 3) := by decide +kernel
theorem dX0_beNew_48 : decode cX0_beNew 48 = .ok (.aload_n 0, 1) := by decide +kernel
theorem dX0_beNew_49 : decode cX0_beNew 49 = .ok (.iconst 0, 1) := by decide +kernel
theorem dX0_beNew_50 : decode cX0_beNew 50 = .ok (.putfield 49, 3) := by decide +kernel
theorem dX0_beNew_53 : decode cX0_beNew 53 = .ok (.aload_n 0, 1) := by decide +kernel
theorem dX0_beNew_54 : decode cX0_beNew 54 = .ok (.bipush (-2), 2) := by decide +kernel
theorem dX0_beNew_56 : decode cX0_beNew 56 = .ok (.putfield 52, 3) := by decide +kernel
theorem dX0_beNew_59 : decode cX0_beNew 59 = .ok (.aload_n 0, 1) := by decide +kernel
theorem dX0_beNew_60 : decode cX0_beNew 60 = .ok (.iconst 0, 1) := by decide +kernel
theorem dX0_beNew_61 : decode cX0_beNew 61 = .ok (.putfield 55, 3) := by decide +kernel
theorem dX0_beNew_64 : decode cX0_beNew 64 = .ok (.return_, 1) := by decide +kernel
theorem dX0_standAt_0 : decode cX0_standAt 0 = .ok (.aload_n 0, 1) := by decide +kernel
theorem dX0_standAt_1 : decode cX0_standAt 1 = .ok (.iload_n 1, 1) := by decide +kernel
theorem dX0_standAt_2 : decode cX0_standAt 2 = .ok (.putfield 31, 3) := by decide +kernel
theorem dX0_standAt_5 : decode cX0_standAt 5 = .ok (.aload_n 0, 1) := by decide +kernel
theorem dX0_standAt_6 : decode cX0_standAt 6 = .ok (.bipush (-2), 2) := by decide +kernel
theorem dX0_standAt_8 : decode cX0_standAt 8 = .ok (.putfield 34, 3) := by decide +kernel
theorem dX0_standAt_11 : decode cX0_standAt 11 = .ok (.aload_n 0, 1) := by decide +kernel
theorem dX0_standAt_12 : decode cX0_standAt 12 = .ok (.iconst 0, 1) := by decide +kernel
theorem dX0_standAt_13 : decode cX0_standAt 13 = .ok (.putfield 37, 3) := by decide +kernel
theorem dX0_standAt_16 : decode cX0_standAt 16 = .ok (.return_, 1) := by decide +kernel
theorem dX0_goOn_0 : decode cX0_goOn 0 = .ok (.aload_n 0, 1) := by decide +kernel
theorem dX0_goOn_1 : decode cX0_goOn 1 = .ok (.bipush (-2), 2) := by decide +kernel
theorem dX0_goOn_3 : decode cX0_goOn 3 = .ok (.putfield 31, 3) := by decide +kernel
theorem dX0_goOn_6 : decode cX0_goOn 6 = .ok (.aload_n 0, 1) := by decide +kernel
theorem dX0_goOn_7 : decode cX0_goOn 7 = .ok (.iload_n 1, 1) := by decide +kernel
theorem dX0_goOn_8 : decode cX0_goOn 8 = .ok (.putfield 34, 3) := by decide +kernel
theorem dX0_goOn_11 : decode cX0_goOn 11 = .ok (.aload_n 0, 1) := by decide +kernel
theorem dX0_goOn_12 : decode cX0_goOn 12 = .ok (.iload_n 2, 1) := by decide +kernel
theorem dX0_goOn_13 : decode cX0_goOn 13 = .ok (.putfield 37, 3) := by decide +kernel
theorem dX0_goOn_16 : decode cX0_goOn 16 = .ok (.return_, 1) := by decide +kernel
theorem dX0_know_0 : decode cX0_know 0 = .ok (.iconst 1, 1) := by decide +kernel
theorem dX0_know_1 : decode cX0_know 1 = .ok (.iload_n 1, 1) := by decide +kernel
theorem dX0_know_2 : decode cX0_know 2 = .ok (.ishl, 1) := by decide +kernel
theorem dX0_know_3 : decode cX0_know 3 = .ok (.istore_n 3, 1) := by decide +kernel
theorem dX0_know_4 : decode cX0_know 4 = .ok (.aload_n 0, 1) := by decide +kernel
theorem dX0_know_5 : decode cX0_know 5 = .ok (.dup, 1) := by decide +kernel
theorem dX0_know_6 : decode cX0_know 6 = .ok (.getfield 46, 3) := by decide +kernel
theorem dX0_know_9 : decode cX0_know 9 = .ok (.iload_n 3, 1) := by decide +kernel
theorem dX0_know_10 : decode cX0_know 10 = .ok (.ior, 1) := by decide +kernel
theorem dX0_know_11 : decode cX0_know 11 = .ok (.putfield 46, 3) := by decide +kernel
theorem dX0_know_14 : decode cX0_know 14 = .ok (.aload_n 0, 1) := by decide +kernel
theorem dX0_know_15 : decode cX0_know 15 = .ok (.iload_n 2, 1) := by decide +kernel
theorem dX0_know_16 : decode cX0_know 16 = .ok (.ifCond .eq 12, 3) := by decide +kernel
theorem dX0_know_19 : decode cX0_know 19 = .ok (.aload_n 0, 1) := by decide +kernel
theorem dX0_know_20 : decode cX0_know 20 = .ok (.getfield 49, 3) := by decide +kernel
theorem dX0_know_23 : decode cX0_know 23 = .ok (.iload_n 3, 1) := by decide +kernel
theorem dX0_know_24 : decode cX0_know 24 = .ok (.ior, 1) := by decide +kernel
theorem dX0_know_25 : decode cX0_know 25 = .ok (.goto 11, 3) := by decide +kernel
theorem dX0_know_28 : decode cX0_know 28 = .ok (.aload_n 0, 1) := by decide +kernel
theorem dX0_know_29 : decode cX0_know 29 = .ok (.getfield 49, 3) := by decide +kernel
theorem dX0_know_32 : decode cX0_know 32 = .ok (.iload_n 3, 1) := by decide +kernel
theorem dX0_know_33 : decode cX0_know 33 = .ok (.iconst (-1), 1) := by decide +kernel
theorem dX0_know_34 : decode cX0_know 34 = .ok (.ixor, 1) := by decide +kernel
theorem dX0_know_35 : decode cX0_know 35 = .ok (.iand, 1) := by decide +kernel
theorem dX0_know_36 : decode cX0_know 36 = .ok (.putfield 49, 3) := by decide +kernel
theorem dX0_know_39 : decode cX0_know 39 = .ok (.return_, 1) := by decide +kernel
theorem dX0_knows_0 : decode cX0_knows 0 = .ok (.aload_n 0, 1) := by decide +kernel
theorem dX0_knows_1 : decode cX0_knows 1 = .ok (.getfield 46, 3) := by decide +kernel
theorem dX0_knows_4 : decode cX0_knows 4 = .ok (.iload_n 1, 1) := by decide +kernel
theorem dX0_knows_5 : decode cX0_knows 5 = .ok (.ishr, 1) := by decide +kernel
theorem dX0_knows_6 : decode cX0_knows 6 = .ok (.iconst 1, 1) := by decide +kernel
theorem dX0_knows_7 : decode cX0_knows 7 = .ok (.iand, 1) := by decide +kernel
theorem dX0_knows_8 : decode cX0_knows 8 = .ok (.ifCond .ne 6, 3) := by decide +kernel
theorem dX0_knows_11 : decode cX0_knows 11 = .ok (.bipush (-2), 2) := by decide +kernel
theorem dX0_knows_13 : decode cX0_knows 13 = .ok (.ireturn, 1) := by decide +kernel
theorem dX0_knows_14 : decode cX0_knows 14 = .ok (.aload_n 0, 1) := by decide +kernel
theorem dX0_knows_15 : decode cX0_knows 15 = .ok (.getfield 49, 3) := by decide +kernel
theorem dX0_knows_18 : decode cX0_knows 18 = .ok (.iload_n 1, 1) := by decide +kernel
theorem dX0_knows_19 : decode cX0_knows 19 = .ok (.ishr, 1) := by decide +kernel
theorem dX0_knows_20 : decode cX0_knows 20 = .ok (.iconst 1, 1) := by decide +kernel
theorem dX0_knows_21 : decode cX0_knows 21 = .ok (.iand, 1) := by decide +kernel
theorem dX0_knows_22 : decode cX0_knows 22 = .ok (.ireturn, 1) := by decide +kernel
theorem dX0_clash_0 : decode cX0_clash 0 = .ok (.aload_n 0, 1) := by decide +kernel
theorem dX0_clash_1 : decode cX0_clash 1 = .ok (.getfield 46, 3) := by decide +kernel
theorem dX0_clash_4 : decode cX0_clash 4 = .ok (.aload_n 1, 1) := by decide +kernel
theorem dX0_clash_5 : decode cX0_clash 5 = .ok (.getfield 46, 3) := by decide +kernel
theorem dX0_clash_8 : decode cX0_clash 8 = .ok (.iand, 1) := by decide +kernel
theorem dX0_clash_9 : decode cX0_clash 9 = .ok (.aload_n 0, 1) := by decide +kernel
theorem dX0_clash_10 : decode cX0_clash 10 = .ok (.getfield 49, 3) := by decide +kernel
theorem dX0_clash_13 : decode cX0_clash 13 = .ok (.aload_n 1, 1) := by decide +kernel
theorem dX0_clash_14 : decode cX0_clash 14 = .ok (.getfield 49, 3) := by decide +kernel
theorem dX0_clash_17 : decode cX0_clash 17 = .ok (.ixor, 1) := by decide +kernel
theorem dX0_clash_18 : decode cX0_clash 18 = .ok (.iand, 1) := by decide +kernel
theorem dX0_clash_19 : decode cX0_clash 19 = .ok (.ireturn, 1) := by decide +kernel
theorem dX0_takeIn_0 : decode cX0_takeIn 0 = .ok (.aload_n 0, 1) := by decide +kernel
theorem dX0_takeIn_1 : decode cX0_takeIn 1 = .ok (.aload_n 0, 1) := by decide +kernel
theorem dX0_takeIn_2 : decode cX0_takeIn 2 = .ok (.getfield 49, 3) := by decide +kernel
theorem dX0_takeIn_5 : decode cX0_takeIn 5 = .ok (.aload_n 1, 1) := by decide +kernel
theorem dX0_takeIn_6 : decode cX0_takeIn 6 = .ok (.getfield 49, 3) := by decide +kernel
theorem dX0_takeIn_9 : decode cX0_takeIn 9 = .ok (.aload_n 0, 1) := by decide +kernel
theorem dX0_takeIn_10 : decode cX0_takeIn 10 = .ok (.getfield 46, 3) := by decide +kernel
theorem dX0_takeIn_13 : decode cX0_takeIn 13 = .ok (.iconst (-1), 1) := by decide +kernel
theorem dX0_takeIn_14 : decode cX0_takeIn 14 = .ok (.ixor, 1) := by decide +kernel
theorem dX0_takeIn_15 : decode cX0_takeIn 15 = .ok (.iand, 1) := by decide +kernel
theorem dX0_takeIn_16 : decode cX0_takeIn 16 = .ok (.ior, 1) := by decide +kernel
theorem dX0_takeIn_17 : decode cX0_takeIn 17 = .ok (.iload_n 2, 1) := by decide +kernel
theorem dX0_takeIn_18 : decode cX0_takeIn 18 = .ok (.iconst (-1), 1) := by decide +kernel
theorem dX0_takeIn_19 : decode cX0_takeIn 19 = .ok (.ixor, 1) := by decide +kernel
theorem dX0_takeIn_20 : decode cX0_takeIn 20 = .ok (.iand, 1) := by decide +kernel
theorem dX0_takeIn_21 : decode cX0_takeIn 21 = .ok (.putfield 49, 3) := by decide +kernel
theorem dX0_takeIn_24 : decode cX0_takeIn 24 = .ok (.aload_n 0, 1) := by decide +kernel
theorem dX0_takeIn_25 : decode cX0_takeIn 25 = .ok (.aload_n 0, 1) := by decide +kernel
theorem dX0_takeIn_26 : decode cX0_takeIn 26 = .ok (.getfield 46, 3) := by decide +kernel
theorem dX0_takeIn_29 : decode cX0_takeIn 29 = .ok (.aload_n 1, 1) := by decide +kernel
theorem dX0_takeIn_30 : decode cX0_takeIn 30 = .ok (.getfield 46, 3) := by decide +kernel
theorem dX0_takeIn_33 : decode cX0_takeIn 33 = .ok (.ior, 1) := by decide +kernel
theorem dX0_takeIn_34 : decode cX0_takeIn 34 = .ok (.iload_n 2, 1) := by decide +kernel
theorem dX0_takeIn_35 : decode cX0_takeIn 35 = .ok (.iconst (-1), 1) := by decide +kernel
theorem dX0_takeIn_36 : decode cX0_takeIn 36 = .ok (.ixor, 1) := by decide +kernel
theorem dX0_takeIn_37 : decode cX0_takeIn 37 = .ok (.iand, 1) := by decide +kernel
theorem dX0_takeIn_38 : decode cX0_takeIn 38 = .ok (.putfield 46, 3) := by decide +kernel
theorem dX0_takeIn_41 : decode cX0_takeIn 41 = .ok (.aload_n 0, 1) := by decide +kernel
theorem dX0_takeIn_42 : decode cX0_takeIn 42 = .ok (.dup, 1) := by decide +kernel
theorem dX0_takeIn_43 : decode cX0_takeIn 43 = .ok (.getfield 28, 3) := by decide +kernel
theorem dX0_takeIn_46 : decode cX0_takeIn 46 = .ok (.aload_n 1, 1) := by decide +kernel
theorem dX0_takeIn_47 : decode cX0_takeIn 47 = .ok (.getfield 28, 3) := by decide +kernel
theorem dX0_takeIn_50 : decode cX0_takeIn 50 = .ok (.iadd, 1) := by decide +kernel
theorem dX0_takeIn_51 : decode cX0_takeIn 51 = .ok (.putfield 28, 3) := by decide +kernel
theorem dX0_takeIn_54 : decode cX0_takeIn 54 = .ok (.aload_n 0, 1) := by decide +kernel
theorem dX0_takeIn_55 : decode cX0_takeIn 55 = .ok (.ldc 62, 2) := by decide +kernel
theorem dX0_takeIn_57 : decode cX0_takeIn 57 = .ok (.aload_n 0, 1) := by decide +kernel
theorem dX0_takeIn_58 : decode cX0_takeIn 58 = .ok (.getfield 43, 3) := by decide +kernel
theorem dX0_takeIn_61 : decode cX0_takeIn 61 = .ok (.aload_n 1, 1) := by decide +kernel
theorem dX0_takeIn_62 : decode cX0_takeIn 62 = .ok (.getfield 43, 3) := by decide +kernel
theorem dX0_takeIn_65 : decode cX0_takeIn 65 = .ok (.iadd, 1) := by decide +kernel
theorem dX0_takeIn_66 : decode cX0_takeIn 66 = .ok (.invokestatic 63, 3) := by decide +kernel
theorem dX0_takeIn_69 : decode cX0_takeIn 69 = .ok (.putfield 43, 3) := by decide +kernel
theorem dX0_takeIn_72 : decode cX0_takeIn 72 = .ok (.aload_n 0, 1) := by decide +kernel
theorem dX0_takeIn_73 : decode cX0_takeIn 73 = .ok (.aload_n 0, 1) := by decide +kernel
theorem dX0_takeIn_74 : decode cX0_takeIn 74 = .ok (.getfield 40, 3) := by decide +kernel
theorem dX0_takeIn_77 : decode cX0_takeIn 77 = .ok (.aload_n 1, 1) := by decide +kernel
theorem dX0_takeIn_78 : decode cX0_takeIn 78 = .ok (.getfield 40, 3) := by decide +kernel
theorem dX0_takeIn_81 : decode cX0_takeIn 81 = .ok (.invokestatic 69, 3) := by decide +kernel
theorem dX0_takeIn_84 : decode cX0_takeIn 84 = .ok (.putfield 40, 3) := by decide +kernel
theorem dX0_takeIn_87 : decode cX0_takeIn 87 = .ok (.aload_n 0, 1) := by decide +kernel
theorem dX0_takeIn_88 : decode cX0_takeIn 88 = .ok (.aload_n 0, 1) := by decide +kernel
theorem dX0_takeIn_89 : decode cX0_takeIn 89 = .ok (.getfield 55, 3) := by decide +kernel
theorem dX0_takeIn_92 : decode cX0_takeIn 92 = .ok (.ifCond .ne 10, 3) := by decide +kernel
theorem dX0_takeIn_95 : decode cX0_takeIn 95 = .ok (.aload_n 1, 1) := by decide +kernel
theorem dX0_takeIn_96 : decode cX0_takeIn 96 = .ok (.getfield 55, 3) := by decide +kernel
theorem dX0_takeIn_99 : decode cX0_takeIn 99 = .ok (.ifCond .eq 7, 3) := by decide +kernel
theorem dX0_takeIn_102 : decode cX0_takeIn 102 = .ok (.iconst 1, 1) := by decide +kernel
theorem dX0_takeIn_103 : decode cX0_takeIn 103 = .ok (.goto 4, 3) := by decide +kernel
theorem dX0_takeIn_106 : decode cX0_takeIn 106 = .ok (.iconst 0, 1) := by decide +kernel
theorem dX0_takeIn_107 : decode cX0_takeIn 107 = .ok (.putfield 55, 3) := by decide +kernel
theorem dX0_takeIn_110 : decode cX0_takeIn 110 = .ok (.aload_n 1, 1) := by decide +kernel
theorem dX0_takeIn_111 : decode cX0_takeIn 111 = .ok (.iconst 0, 1) := by decide +kernel
theorem dX0_takeIn_112 : decode cX0_takeIn 112 = .ok (.putfield 24, 3) := by decide +kernel
theorem dX0_takeIn_115 : decode cX0_takeIn 115 = .ok (.aload_n 1, 1) := by decide +kernel
theorem dX0_takeIn_116 : decode cX0_takeIn 116 = .ok (.aload_n 0, 1) := by decide +kernel
theorem dX0_takeIn_117 : decode cX0_takeIn 117 = .ok (.getfield 9, 3) := by decide +kernel
theorem dX0_takeIn_120 : decode cX0_takeIn 120 = .ok (.putfield 52, 3) := by decide +kernel
theorem dX0_takeIn_123 : decode cX0_takeIn 123 = .ok (.return_, 1) := by decide +kernel
theorem dX1_init_0 : decode cX1_init 0 = .ok (.aload_n 0, 1) := by decide +kernel
theorem dX1_init_1 : decode cX1_init 1 = .ok (.invokespecial 3, 3) := by decide +kernel
theorem dX1_init_4 : decode cX1_init 4 = .ok (.aload_n 0, 1) := by decide +kernel
theorem dX1_init_5 : decode cX1_init 5 = .ok (.bipush 16, 2) := by decide +kernel
theorem dX1_init_7 : decode cX1_init 7 = .ok (.newarray .int, 2) := by decide +kernel
theorem dX1_init_9 : decode cX1_init 9 = .ok (.putfield 9, 3) := by decide +kernel
theorem dX1_init_12 : decode cX1_init 12 = .ok (.aload_n 0, 1) := by decide +kernel
theorem dX1_init_13 : decode cX1_init 13 = .ok (.bipush 16, 2) := by decide +kernel
theorem dX1_init_15 : decode cX1_init 15 = .ok (.newarray .int, 2) := by decide +kernel
theorem dX1_init_17 : decode cX1_init 17 = .ok (.putfield 15, 3) := by decide +kernel
theorem dX1_init_20 : decode cX1_init 20 = .ok (.aload_n 0, 1) := by decide +kernel
theorem dX1_init_21 : decode cX1_init 21 = .ok (.iconst 0, 1) := by decide +kernel
theorem dX1_init_22 : decode cX1_init 22 = .ok (.putfield 18, 3) := by decide +kernel
theorem dX1_init_25 : decode cX1_init 25 = .ok (.aload_n 0, 1) := by decide +kernel
theorem dX1_init_26 : decode cX1_init 26 = .ok (.iconst 0, 1) := by decide +kernel
theorem dX1_init_27 : decode cX1_init 27 = .ok (.putfield 22, 3) := by decide +kernel
theorem dX1_init_30 : decode cX1_init 30 = .ok (.aload_n 0, 1) := by decide +kernel
theorem dX1_init_31 : decode cX1_init 31 = .ok (.iconst 0, 1) := by decide +kernel
theorem dX1_init_32 : decode cX1_init 32 = .ok (.putfield 25, 3) := by decide +kernel
theorem dX1_init_35 : decode cX1_init 35 = .ok (.aload_n 0, 1) := by decide +kernel
theorem dX1_init_36 : decode cX1_init 36 = .ok (.aload_n 1, 1) := by decide +kernel
theorem dX1_init_37 : decode cX1_init 37 = .ok (.putfield 28, 3) := by decide +kernel
theorem dX1_init_40 : decode cX1_init 40 = .ok (.return_, 1) := by decide +kernel
theorem dX1_read_0 : decode cX1_read 0 = .ok (.aload_n 0, 1) := by decide +kernel
theorem dX1_read_1 : decode cX1_read 1 = .ok (.iload_n 1, 1) := by decide +kernel
theorem dX1_read_2 : decode cX1_read 2 = .ok (.putfield 22, 3) := by decide +kernel
theorem dX1_read_5 : decode cX1_read 5 = .ok (.aload_n 0, 1) := by decide +kernel
theorem dX1_read_6 : decode cX1_read 6 = .ok (.iconst 0, 1) := by decide +kernel
theorem dX1_read_7 : decode cX1_read 7 = .ok (.putfield 25, 3) := by decide +kernel
theorem dX1_read_10 : decode cX1_read 10 = .ok (.aload_n 0, 1) := by decide +kernel
theorem dX1_read_11 : decode cX1_read 11 = .ok (.iconst 0, 1) := by decide +kernel
theorem dX1_read_12 : decode cX1_read 12 = .ok (.putfield 18, 3) := by decide +kernel
theorem dX1_read_15 : decode cX1_read 15 = .ok (.iconst 0, 1) := by decide +kernel
theorem dX1_read_16 : decode cX1_read 16 = .ok (.istore_n 2, 1) := by decide +kernel
theorem dX1_read_17 : decode cX1_read 17 = .ok (.iload_n 2, 1) := by decide +kernel
theorem dX1_read_18 : decode cX1_read 18 = .ok (.aload_n 0, 1) := by decide +kernel
theorem dX1_read_19 : decode cX1_read 19 = .ok (.getfield 9, 3) := by decide +kernel
theorem dX1_read_22 : decode cX1_read 22 = .ok (.arraylength, 1) := by decide +kernel
theorem dX1_read_23 : decode cX1_read 23 = .ok (.if_icmp .ge 59, 3) := by decide +kernel
theorem dX1_read_26 : decode cX1_read 26 = .ok (.aload_n 0, 1) := by decide +kernel
theorem dX1_read_27 : decode cX1_read 27 = .ok (.invokevirtual 32, 3) := by decide +kernel
theorem dX1_read_30 : decode cX1_read 30 = .ok (.istore_n 3, 1) := by decide +kernel
theorem dX1_read_31 : decode cX1_read 31 = .ok (.iload_n 3, 1) := by decide +kernel
theorem dX1_read_32 : decode cX1_read 32 = .ok (.ifCond .ne 14, 3) := by decide +kernel
theorem dX1_read_35 : decode cX1_read 35 = .ok (.aload_n 0, 1) := by decide +kernel
theorem dX1_read_36 : decode cX1_read 36 = .ok (.getfield 25, 3) := by decide +kernel
theorem dX1_read_39 : decode cX1_read 39 = .ok (.aload_n 0, 1) := by decide +kernel
theorem dX1_read_40 : decode cX1_read 40 = .ok (.getfield 22, 3) := by decide +kernel
theorem dX1_read_43 : decode cX1_read 43 = .ok (.if_icmp .ne 5, 3) := by decide +kernel
theorem dX1_read_46 : decode cX1_read 46 = .ok (.iload_n 3, 1) := by decide +kernel
theorem dX1_read_47 : decode cX1_read 47 = .ok (.ireturn, 1) := by decide +kernel
theorem dX1_read_48 : decode cX1_read 48 = .ok (.aload_n 0, 1) := by decide +kernel
theorem dX1_read_49 : decode cX1_read 49 = .ok (.invokevirtual 36, 3) := by decide +kernel
theorem dX1_read_52 : decode cX1_read 52 = .ok (.bipush 44, 2) := by decide +kernel
theorem dX1_read_54 : decode cX1_read 54 = .ok (.if_icmp .eq 12, 3) := by decide +kernel
theorem dX1_read_57 : decode cX1_read 57 = .ok (.iconst 1, 1) := by decide +kernel
theorem dX1_read_58 : decode cX1_read 58 = .ok (.aload_n 0, 1) := by decide +kernel
theorem dX1_read_59 : decode cX1_read 59 = .ok (.getfield 25, 3) := by decide +kernel
theorem dX1_read_62 : decode cX1_read 62 = .ok (.invokestatic 39, 3) := by decide +kernel
theorem dX1_read_65 : decode cX1_read 65 = .ok (.ireturn, 1) := by decide +kernel
theorem dX1_read_66 : decode cX1_read 66 = .ok (.aload_n 0, 1) := by decide +kernel
theorem dX1_read_67 : decode cX1_read 67 = .ok (.dup, 1) := by decide +kernel
theorem dX1_read_68 : decode cX1_read 68 = .ok (.getfield 25, 3) := by decide +kernel
theorem dX1_read_71 : decode cX1_read 71 = .ok (.iconst 1, 1) := by decide +kernel
theorem dX1_read_72 : decode cX1_read 72 = .ok (.iadd, 1) := by decide +kernel
theorem dX1_read_73 : decode cX1_read 73 = .ok (.putfield 25, 3) := by decide +kernel
theorem dX1_read_76 : decode cX1_read 76 = .ok (.iinc 2 1, 3) := by decide +kernel
theorem dX1_read_79 : decode cX1_read 79 = .ok (.goto (-62), 3) := by decide +kernel
theorem dX1_read_82 : decode cX1_read 82 = .ok (.iconst 1, 1) := by decide +kernel
theorem dX1_read_83 : decode cX1_read 83 = .ok (.aload_n 0, 1) := by decide +kernel
theorem dX1_read_84 : decode cX1_read 84 = .ok (.getfield 25, 3) := by decide +kernel
theorem dX1_read_87 : decode cX1_read 87 = .ok (.invokestatic 39, 3) := by decide +kernel
theorem dX1_read_90 : decode cX1_read 90 = .ok (.ireturn, 1) := by decide +kernel
theorem dX1_step_0 : decode cX1_step 0 = .ok (.aload_n 0, 1) := by decide +kernel
theorem dX1_step_1 : decode cX1_step 1 = .ok (.getfield 25, 3) := by decide +kernel
theorem dX1_step_4 : decode cX1_step 4 = .ok (.istore_n 1, 1) := by decide +kernel
theorem dX1_step_5 : decode cX1_step 5 = .ok (.aload_n 0, 1) := by decide +kernel
theorem dX1_step_6 : decode cX1_step 6 = .ok (.iconst 2, 1) := by decide +kernel
theorem dX1_step_7 : decode cX1_step 7 = .ok (.invokevirtual 43, 3) := by decide +kernel
theorem dX1_step_10 : decode cX1_step 10 = .ok (.istore_n 2, 1) := by decide +kernel
theorem dX1_step_11 : decode cX1_step 11 = .ok (.iload_n 2, 1) := by decide +kernel
theorem dX1_step_12 : decode cX1_step 12 = .ok (.ifCond .ge 12, 3) := by decide +kernel
theorem dX1_step_15 : decode cX1_step 15 = .ok (.iconst 1, 1) := by decide +kernel
theorem dX1_step_16 : decode cX1_step 16 = .ok (.aload_n 0, 1) := by decide +kernel
theorem dX1_step_17 : decode cX1_step 17 = .ok (.getfield 25, 3) := by decide +kernel
theorem dX1_step_20 : decode cX1_step 20 = .ok (.invokestatic 39, 3) := by decide +kernel
theorem dX1_step_23 : decode cX1_step 23 = .ok (.ireturn, 1) := by decide +kernel
theorem dX1_step_24 : decode cX1_step 24 = .ok (.iload_n 2, 1) := by decide +kernel
theorem dX1_step_25 : decode cX1_step 25 = .ok (.bipush 16, 2) := by decide +kernel
theorem dX1_step_27 : decode cX1_step 27 = .ok (.if_icmp .lt 9, 3) := by decide +kernel
theorem dX1_step_30 : decode cX1_step 30 = .ok (.iconst 3, 1) := by decide +kernel
theorem dX1_step_31 : decode cX1_step 31 = .ok (.iload_n 1, 1) := by decide +kernel
theorem dX1_step_32 : decode cX1_step 32 = .ok (.invokestatic 39, 3) := by decide +kernel
theorem dX1_step_35 : decode cX1_step 35 = .ok (.ireturn, 1) := by decide +kernel
theorem dX1_step_36 : decode cX1_step 36 = .ok (.aload_n 0, 1) := by decide +kernel
theorem dX1_step_37 : decode cX1_step 37 = .ok (.invokevirtual 36, 3) := by decide +kernel
theorem dX1_step_40 : decode cX1_step 40 = .ok (.bipush 64, 2) := by decide +kernel
theorem dX1_step_42 : decode cX1_step 42 = .ok (.if_icmp .eq 12, 3) := by decide +kernel
theorem dX1_step_45 : decode cX1_step 45 = .ok (.iconst 1, 1) := by decide +kernel
theorem dX1_step_46 : decode cX1_step 46 = .ok (.aload_n 0, 1) := by decide +kernel
theorem dX1_step_47 : decode cX1_step 47 = .ok (.getfield 25, 3) := by decide +kernel
theorem dX1_step_50 : decode cX1_step 50 = .ok (.invokestatic 39, 3) := by decide +kernel
theorem dX1_step_53 : decode cX1_step 53 = .ok (.ireturn, 1) := by decide +kernel
theorem dX1_step_54 : decode cX1_step 54 = .ok (.aload_n 0, 1) := by decide +kernel
theorem dX1_step_55 : decode cX1_step 55 = .ok (.dup, 1) := by decide +kernel
theorem dX1_step_56 : decode cX1_step 56 = .ok (.getfield 25, 3) := by decide +kernel
theorem dX1_step_59 : decode cX1_step 59 = .ok (.iconst 1, 1) := by decide +kernel
theorem dX1_step_60 : decode cX1_step 60 = .ok (.iadd, 1) := by decide +kernel
theorem dX1_step_61 : decode cX1_step 61 = .ok (.putfield 25, 3) := by decide +kernel
theorem dX1_step_64 : decode cX1_step 64 = .ok (.aload_n 0, 1) := by decide +kernel
theorem dX1_step_65 : decode cX1_step 65 = .ok (.getfield 25, 3) := by decide +kernel
theorem dX1_step_68 : decode cX1_step 68 = .ok (.istore_n 1, 1) := by decide +kernel
theorem dX1_step_69 : decode cX1_step 69 = .ok (.aload_n 0, 1) := by decide +kernel
theorem dX1_step_70 : decode cX1_step 70 = .ok (.iconst 3, 1) := by decide +kernel
theorem dX1_step_71 : decode cX1_step 71 = .ok (.invokevirtual 43, 3) := by decide +kernel
theorem dX1_step_74 : decode cX1_step 74 = .ok (.istore_n 3, 1) := by decide +kernel
theorem dX1_step_75 : decode cX1_step 75 = .ok (.iload_n 3, 1) := by decide +kernel
theorem dX1_step_76 : decode cX1_step 76 = .ok (.ifCond .ge 12, 3) := by decide +kernel
theorem dX1_step_79 : decode cX1_step 79 = .ok (.iconst 1, 1) := by decide +kernel
theorem dX1_step_80 : decode cX1_step 80 = .ok (.aload_n 0, 1) := by decide +kernel
theorem dX1_step_81 : decode cX1_step 81 = .ok (.getfield 25, 3) := by decide +kernel
theorem dX1_step_84 : decode cX1_step 84 = .ok (.invokestatic 39, 3) := by decide +kernel
theorem dX1_step_87 : decode cX1_step 87 = .ok (.ireturn, 1) := by decide +kernel
theorem dX1_step_88 : decode cX1_step 88 = .ok (.aload_n 0, 1) := by decide +kernel
theorem dX1_step_89 : decode cX1_step 89 = .ok (.getfield 18, 3) := by decide +kernel
theorem dX1_step_92 : decode cX1_step 92 = .ok (.ifCond .le 25, 3) := by decide +kernel
theorem dX1_step_95 : decode cX1_step 95 = .ok (.iload_n 3, 1) := by decide +kernel
theorem dX1_step_96 : decode cX1_step 96 = .ok (.aload_n 0, 1) := by decide +kernel
theorem dX1_step_97 : decode cX1_step 97 = .ok (.getfield 15, 3) := by decide +kernel
theorem dX1_step_100 : decode cX1_step 100 = .ok (.aload_n 0, 1) := by decide +kernel
theorem dX1_step_101 : decode cX1_step 101 = .ok (.getfield 18, 3) := by decide +kernel
theorem dX1_step_104 : decode cX1_step 104 = .ok (.iconst 1, 1) := by decide +kernel
theorem dX1_step_105 : decode cX1_step 105 = .ok (.isub, 1) := by decide +kernel
theorem dX1_step_106 : decode cX1_step 106 = .ok (.iaload, 1) := by decide +kernel
theorem dX1_step_107 : decode cX1_step 107 = .ok (.if_icmp .gt 10, 3) := by decide +kernel
theorem dX1_step_110 : decode cX1_step 110 = .ok (.bipush 6, 2) := by decide +kernel
theorem dX1_step_112 : decode cX1_step 112 = .ok (.iload_n 1, 1) := by decide +kernel
theorem dX1_step_113 : decode cX1_step 113 = .ok (.invokestatic 39, 3) := by decide +kernel
theorem dX1_step_116 : decode cX1_step 116 = .ok (.ireturn, 1) := by decide +kernel
theorem dX1_step_117 : decode cX1_step 117 = .ok (.aload_n 0, 1) := by decide +kernel
theorem dX1_step_118 : decode cX1_step 118 = .ok (.getfield 9, 3) := by decide +kernel
theorem dX1_step_121 : decode cX1_step 121 = .ok (.aload_n 0, 1) := by decide +kernel
theorem dX1_step_122 : decode cX1_step 122 = .ok (.getfield 18, 3) := by decide +kernel
theorem dX1_step_125 : decode cX1_step 125 = .ok (.iload_n 2, 1) := by decide +kernel
theorem dX1_step_126 : decode cX1_step 126 = .ok (.iastore, 1) := by decide +kernel
theorem dX1_step_127 : decode cX1_step 127 = .ok (.aload_n 0, 1) := by decide +kernel
theorem dX1_step_128 : decode cX1_step 128 = .ok (.getfield 15, 3) := by decide +kernel
theorem dX1_step_131 : decode cX1_step 131 = .ok (.aload_n 0, 1) := by decide +kernel
theorem dX1_step_132 : decode cX1_step 132 = .ok (.getfield 18, 3) := by decide +kernel
theorem dX1_step_135 : decode cX1_step 135 = .ok (.iload_n 3, 1) := by decide +kernel
theorem dX1_step_136 : decode cX1_step 136 = .ok (.iastore, 1) := by decide +kernel
theorem dX1_step_137 : decode cX1_step 137 = .ok (.aload_n 0, 1) := by decide +kernel
theorem dX1_step_138 : decode cX1_step 138 = .ok (.dup, 1) := by decide +kernel
theorem dX1_step_139 : decode cX1_step 139 = .ok (.getfield 18, 3) := by decide +kernel
theorem dX1_step_142 : decode cX1_step 142 = .ok (.iconst 1, 1) := by decide +kernel
theorem dX1_step_143 : decode cX1_step 143 = .ok (.iadd, 1) := by decide +kernel
theorem dX1_step_144 : decode cX1_step 144 = .ok (.putfield 18, 3) := by decide +kernel
theorem dX1_step_147 : decode cX1_step 147 = .ok (.iconst 0, 1) := by decide +kernel
theorem dX1_step_148 : decode cX1_step 148 = .ok (.ireturn, 1) := by decide +kernel
theorem dX1_peek_0 : decode cX1_peek 0 = .ok (.aload_n 0, 1) := by decide +kernel
theorem dX1_peek_1 : decode cX1_peek 1 = .ok (.getfield 25, 3) := by decide +kernel
theorem dX1_peek_4 : decode cX1_peek 4 = .ok (.aload_n 0, 1) := by decide +kernel
theorem dX1_peek_5 : decode cX1_peek 5 = .ok (.getfield 22, 3) := by decide +kernel
theorem dX1_peek_8 : decode cX1_peek 8 = .ok (.if_icmp .ge 17, 3) := by decide +kernel
theorem dX1_peek_11 : decode cX1_peek 11 = .ok (.aload_n 0, 1) := by decide +kernel
theorem dX1_peek_12 : decode cX1_peek 12 = .ok (.getfield 28, 3) := by decide +kernel
theorem dX1_peek_15 : decode cX1_peek 15 = .ok (.aload_n 0, 1) := by decide +kernel
theorem dX1_peek_16 : decode cX1_peek 16 = .ok (.getfield 25, 3) := by decide +kernel
theorem dX1_peek_19 : decode cX1_peek 19 = .ok (.invokevirtual 47, 3) := by decide +kernel
theorem dX1_peek_22 : decode cX1_peek 22 = .ok (.goto 4, 3) := by decide +kernel
theorem dX1_peek_25 : decode cX1_peek 25 = .ok (.iconst (-1), 1) := by decide +kernel
theorem dX1_peek_26 : decode cX1_peek 26 = .ok (.ireturn, 1) := by decide +kernel
theorem dX1_digits_0 : decode cX1_digits 0 = .ok (.iconst (-1), 1) := by decide +kernel
theorem dX1_digits_1 : decode cX1_digits 1 = .ok (.istore_n 2, 1) := by decide +kernel
theorem dX1_digits_2 : decode cX1_digits 2 = .ok (.iconst 0, 1) := by decide +kernel
theorem dX1_digits_3 : decode cX1_digits 3 = .ok (.istore_n 3, 1) := by decide +kernel
theorem dX1_digits_4 : decode cX1_digits 4 = .ok (.iload_n 3, 1) := by decide +kernel
theorem dX1_digits_5 : decode cX1_digits 5 = .ok (.iload_n 1, 1) := by decide +kernel
theorem dX1_digits_6 : decode cX1_digits 6 = .ok (.if_icmp .ge 54, 3) := by decide +kernel
theorem dX1_digits_9 : decode cX1_digits 9 = .ok (.aload_n 0, 1) := by decide +kernel
theorem dX1_digits_10 : decode cX1_digits 10 = .ok (.invokevirtual 36, 3) := by decide +kernel
theorem dX1_digits_13 : decode cX1_digits 13 = .ok (.bipush 48, 2) := by decide +kernel
theorem dX1_digits_15 : decode cX1_digits 15 = .ok (.if_icmp .lt 45, 3) := by decide +kernel
theorem dX1_digits_18 : decode cX1_digits 18 = .ok (.aload_n 0, 1) := by decide +kernel
theorem dX1_digits_19 : decode cX1_digits 19 = .ok (.invokevirtual 36, 3) := by decide +kernel
theorem dX1_digits_22 : decode cX1_digits 22 = .ok (.bipush 57, 2) := by decide +kernel
theorem dX1_digits_24 : decode cX1_digits 24 = .ok (.if_icmp .gt 36, 3) := by decide +kernel
theorem dX1_digits_27 : decode cX1_digits 27 = .ok (.bipush 10, 2) := by decide +kernel
theorem dX1_digits_29 : decode cX1_digits 29 = .ok (.iload_n 2, 1) := by decide +kernel
theorem dX1_digits_30 : decode cX1_digits 30 = .ok (.iconst 0, 1) := by decide +kernel
theorem dX1_digits_31 : decode cX1_digits 31 = .ok (.invokestatic 52, 3) := by decide +kernel
theorem dX1_digits_34 : decode cX1_digits 34 = .ok (.imul, 1) := by decide +kernel
theorem dX1_digits_35 : decode cX1_digits 35 = .ok (.aload_n 0, 1) := by decide +kernel
theorem dX1_digits_36 : decode cX1_digits 36 = .ok (.invokevirtual 36, 3) := by decide +kernel
theorem dX1_digits_39 : decode cX1_digits 39 = .ok (.iadd, 1) := by decide +kernel
theorem dX1_digits_40 : decode cX1_digits 40 = .ok (.bipush 48, 2) := by decide +kernel
theorem dX1_digits_42 : decode cX1_digits 42 = .ok (.isub, 1) := by decide +kernel
theorem dX1_digits_43 : decode cX1_digits 43 = .ok (.istore_n 2, 1) := by decide +kernel
theorem dX1_digits_44 : decode cX1_digits 44 = .ok (.aload_n 0, 1) := by decide +kernel
theorem dX1_digits_45 : decode cX1_digits 45 = .ok (.dup, 1) := by decide +kernel
theorem dX1_digits_46 : decode cX1_digits 46 = .ok (.getfield 25, 3) := by decide +kernel
theorem dX1_digits_49 : decode cX1_digits 49 = .ok (.iconst 1, 1) := by decide +kernel
theorem dX1_digits_50 : decode cX1_digits 50 = .ok (.iadd, 1) := by decide +kernel
theorem dX1_digits_51 : decode cX1_digits 51 = .ok (.putfield 25, 3) := by decide +kernel
theorem dX1_digits_54 : decode cX1_digits 54 = .ok (.iinc 3 1, 3) := by decide +kernel
theorem dX1_digits_57 : decode cX1_digits 57 = .ok (.goto (-53), 3) := by decide +kernel
theorem dX1_digits_60 : decode cX1_digits 60 = .ok (.iload_n 2, 1) := by decide +kernel
theorem dX1_digits_61 : decode cX1_digits 61 = .ok (.ireturn, 1) := by decide +kernel
theorem dX2_init_0 : decode cX2_init 0 = .ok (.aload_n 0, 1) := by decide +kernel
theorem dX2_init_1 : decode cX2_init 1 = .ok (.invokespecial 3, 3) := by decide +kernel
theorem dX2_init_4 : decode cX2_init 4 = .ok (.aload_n 0, 1) := by decide +kernel
theorem dX2_init_5 : decode cX2_init 5 = .ok (.iconst 5, 1) := by decide +kernel
theorem dX2_init_6 : decode cX2_init 6 = .ok (.newarray .int, 2) := by decide +kernel
theorem dX2_init_8 : decode cX2_init 8 = .ok (.putfield 9, 3) := by decide +kernel
theorem dX2_init_11 : decode cX2_init 11 = .ok (.aload_n 0, 1) := by decide +kernel
theorem dX2_init_12 : decode cX2_init 12 = .ok (.iconst 5, 1) := by decide +kernel
theorem dX2_init_13 : decode cX2_init 13 = .ok (.newarray .int, 2) := by decide +kernel
theorem dX2_init_15 : decode cX2_init 15 = .ok (.putfield 15, 3) := by decide +kernel
theorem dX2_init_18 : decode cX2_init 18 = .ok (.aload_n 0, 1) := by decide +kernel
theorem dX2_init_19 : decode cX2_init 19 = .ok (.iconst 0, 1) := by decide +kernel
theorem dX2_init_20 : decode cX2_init 20 = .ok (.putfield 18, 3) := by decide +kernel
theorem dX2_init_23 : decode cX2_init 23 = .ok (.aload_n 0, 1) := by decide +kernel
theorem dX2_init_24 : decode cX2_init 24 = .ok (.iconst (-1), 1) := by decide +kernel
theorem dX2_init_25 : decode cX2_init 25 = .ok (.putfield 22, 3) := by decide +kernel
theorem dX2_init_28 : decode cX2_init 28 = .ok (.return_, 1) := by decide +kernel
theorem dX2_take_0 : decode cX2_take 0 = .ok (.aload_n 0, 1) := by decide +kernel
theorem dX2_take_1 : decode cX2_take 1 = .ok (.iconst 0, 1) := by decide +kernel
theorem dX2_take_2 : decode cX2_take 2 = .ok (.putfield 18, 3) := by decide +kernel
theorem dX2_take_5 : decode cX2_take 5 = .ok (.aload_n 1, 1) := by decide +kernel
theorem dX2_take_6 : decode cX2_take 6 = .ok (.iconst 0, 1) := by decide +kernel
theorem dX2_take_7 : decode cX2_take 7 = .ok (.invokevirtual 25, 3) := by decide +kernel
theorem dX2_take_10 : decode cX2_take 10 = .ok (.istore 4, 2) := by decide +kernel
theorem dX2_take_12 : decode cX2_take 12 = .ok (.iconst 0, 1) := by decide +kernel
theorem dX2_take_13 : decode cX2_take 13 = .ok (.istore 5, 2) := by decide +kernel
theorem dX2_take_15 : decode cX2_take 15 = .ok (.iload 5, 2) := by decide +kernel
theorem dX2_take_17 : decode cX2_take 17 = .ok (.iload_n 2, 1) := by decide +kernel
theorem dX2_take_18 : decode cX2_take 18 = .ok (.if_icmp .ge 162, 3) := by decide +kernel
theorem dX2_take_21 : decode cX2_take 21 = .ok (.iload 5, 2) := by decide +kernel
theorem dX2_take_23 : decode cX2_take 23 = .ok (.aload_n 0, 1) := by decide +kernel
theorem dX2_take_24 : decode cX2_take 24 = .ok (.getfield 9, 3) := by decide +kernel
theorem dX2_take_27 : decode cX2_take 27 = .ok (.arraylength, 1) := by decide +kernel
theorem dX2_take_28 : decode cX2_take 28 = .ok (.if_icmp .ge 152, 3) := by decide +kernel
theorem dX2_take_31 : decode cX2_take 31 = .ok (.aload_n 1, 1) := by decide +kernel
theorem dX2_take_32 : decode cX2_take 32 = .ok (.iload 5, 2) := by decide +kernel
theorem dX2_take_34 : decode cX2_take 34 = .ok (.invokevirtual 25, 3) := by decide +kernel
theorem dX2_take_37 : decode cX2_take 37 = .ok (.istore 6, 2) := by decide +kernel
theorem dX2_take_39 : decode cX2_take 39 = .ok (.aload_n 3, 1) := by decide +kernel
theorem dX2_take_40 : decode cX2_take 40 = .ok (.iload 4, 2) := by decide +kernel
theorem dX2_take_42 : decode cX2_take 42 = .ok (.invokevirtual 31, 3) := by decide +kernel
theorem dX2_take_45 : decode cX2_take 45 = .ok (.ifCond .eq 12, 3) := by decide +kernel
theorem dX2_take_48 : decode cX2_take 48 = .ok (.aload_n 3, 1) := by decide +kernel
theorem dX2_take_49 : decode cX2_take 49 = .ok (.iload 6, 2) := by decide +kernel
theorem dX2_take_51 : decode cX2_take 51 = .ok (.invokevirtual 31, 3) := by decide +kernel
theorem dX2_take_54 : decode cX2_take 54 = .ok (.ifCond .ne 5, 3) := by decide +kernel
theorem dX2_take_57 : decode cX2_take 57 = .ok (.iconst 0, 1) := by decide +kernel
theorem dX2_take_58 : decode cX2_take 58 = .ok (.ireturn, 1) := by decide +kernel
theorem dX2_take_59 : decode cX2_take 59 = .ok (.aload_n 3, 1) := by decide +kernel
theorem dX2_take_60 : decode cX2_take 60 = .ok (.getfield 37, 3) := by decide +kernel
theorem dX2_take_63 : decode cX2_take 63 = .ok (.iload 6, 2) := by decide +kernel
theorem dX2_take_65 : decode cX2_take 65 = .ok (.aaload, 1) := by decide +kernel
theorem dX2_take_66 : decode cX2_take 66 = .ok (.getfield 41, 3) := by decide +kernel
theorem dX2_take_69 : decode cX2_take 69 = .ok (.aload_n 3, 1) := by decide +kernel
theorem dX2_take_70 : decode cX2_take 70 = .ok (.getfield 37, 3) := by decide +kernel
theorem dX2_take_73 : decode cX2_take 73 = .ok (.iload 4, 2) := by decide +kernel
theorem dX2_take_75 : decode cX2_take 75 = .ok (.aaload, 1) := by decide +kernel
theorem dX2_take_76 : decode cX2_take 76 = .ok (.getfield 41, 3) := by decide +kernel
theorem dX2_take_79 : decode cX2_take 79 = .ok (.if_icmp .eq 5, 3) := by decide +kernel
theorem dX2_take_82 : decode cX2_take 82 = .ok (.iconst 0, 1) := by decide +kernel
theorem dX2_take_83 : decode cX2_take 83 = .ok (.ireturn, 1) := by decide +kernel
theorem dX2_take_84 : decode cX2_take 84 = .ok (.aload_n 0, 1) := by decide +kernel
theorem dX2_take_85 : decode cX2_take 85 = .ok (.getfield 18, 3) := by decide +kernel
theorem dX2_take_88 : decode cX2_take 88 = .ok (.istore 7, 2) := by decide +kernel
theorem dX2_take_90 : decode cX2_take 90 = .ok (.aload_n 0, 1) := by decide +kernel
theorem dX2_take_91 : decode cX2_take 91 = .ok (.getfield 18, 3) := by decide +kernel
theorem dX2_take_94 : decode cX2_take 94 = .ok (.iconst 1, 1) := by decide +kernel
theorem dX2_take_95 : decode cX2_take 95 = .ok (.isub, 1) := by decide +kernel
theorem dX2_take_96 : decode cX2_take 96 = .ok (.istore 8, 2) := by decide +kernel
theorem dX2_take_98 : decode cX2_take 98 = .ok (.iload 8, 2) := by decide +kernel
theorem dX2_take_100 : decode cX2_take 100 = .ok (.ifCond .lt 55, 3) := by decide +kernel
theorem dX2_take_103 : decode cX2_take 103 = .ok (.aload_n 0, 1) := by decide +kernel
theorem dX2_take_104 : decode cX2_take 104 = .ok (.getfield 9, 3) := by decide +kernel
theorem dX2_take_107 : decode cX2_take 107 = .ok (.iload 8, 2) := by decide +kernel
theorem dX2_take_109 : decode cX2_take 109 = .ok (.iaload, 1) := by decide +kernel
theorem dX2_take_110 : decode cX2_take 110 = .ok (.iload 6, 2) := by decide +kernel
theorem dX2_take_112 : decode cX2_take 112 = .ok (.if_icmp .lt 43, 3) := by decide +kernel
theorem dX2_take_115 : decode cX2_take 115 = .ok (.aload_n 0, 1) := by decide +kernel
theorem dX2_take_116 : decode cX2_take 116 = .ok (.getfield 9, 3) := by decide +kernel
theorem dX2_take_119 : decode cX2_take 119 = .ok (.iload 8, 2) := by decide +kernel
theorem dX2_take_121 : decode cX2_take 121 = .ok (.iaload, 1) := by decide +kernel
theorem dX2_take_122 : decode cX2_take 122 = .ok (.iload 6, 2) := by decide +kernel
theorem dX2_take_124 : decode cX2_take 124 = .ok (.if_icmp .ne 5, 3) := by decide +kernel
theorem dX2_take_127 : decode cX2_take 127 = .ok (.iconst 0, 1) := by decide +kernel
theorem dX2_take_128 : decode cX2_take 128 = .ok (.ireturn, 1) := by decide +kernel
theorem dX2_take_129 : decode cX2_take 129 = .ok (.aload_n 0, 1) := by decide +kernel
theorem dX2_take_130 : decode cX2_take 130 = .ok (.getfield 9, 3) := by decide +kernel
theorem dX2_take_133 : decode cX2_take 133 = .ok (.iload 8, 2) := by decide +kernel
theorem dX2_take_135 : decode cX2_take 135 = .ok (.iconst 1, 1) := by decide +kernel
theorem dX2_take_136 : decode cX2_take 136 = .ok (.iadd, 1) := by decide +kernel
theorem dX2_take_137 : decode cX2_take 137 = .ok (.aload_n 0, 1) := by decide +kernel
theorem dX2_take_138 : decode cX2_take 138 = .ok (.getfield 9, 3) := by decide +kernel
theorem dX2_take_141 : decode cX2_take 141 = .ok (.iload 8, 2) := by decide +kernel
theorem dX2_take_143 : decode cX2_take 143 = .ok (.iaload, 1) := by decide +kernel
theorem dX2_take_144 : decode cX2_take 144 = .ok (.iastore, 1) := by decide +kernel
theorem dX2_take_145 : decode cX2_take 145 = .ok (.iload 8, 2) := by decide +kernel
theorem dX2_take_147 : decode cX2_take 147 = .ok (.istore 7, 2) := by decide +kernel
theorem dX2_take_149 : decode cX2_take 149 = .ok (.iinc 8 (-1), 3) := by decide +kernel
theorem dX2_take_152 : decode cX2_take 152 = .ok (.goto (-54), 3) := by decide +kernel
theorem dX2_take_155 : decode cX2_take 155 = .ok (.aload_n 0, 1) := by decide +kernel
theorem dX2_take_156 : decode cX2_take 156 = .ok (.getfield 9, 3) := by decide +kernel
theorem dX2_take_159 : decode cX2_take 159 = .ok (.iload 7, 2) := by decide +kernel
theorem dX2_take_161 : decode cX2_take 161 = .ok (.iload 6, 2) := by decide +kernel
theorem dX2_take_163 : decode cX2_take 163 = .ok (.iastore, 1) := by decide +kernel
theorem dX2_take_164 : decode cX2_take 164 = .ok (.aload_n 0, 1) := by decide +kernel
theorem dX2_take_165 : decode cX2_take 165 = .ok (.dup, 1) := by decide +kernel
theorem dX2_take_166 : decode cX2_take 166 = .ok (.getfield 18, 3) := by decide +kernel
theorem dX2_take_169 : decode cX2_take 169 = .ok (.iconst 1, 1) := by decide +kernel
theorem dX2_take_170 : decode cX2_take 170 = .ok (.iadd, 1) := by decide +kernel
theorem dX2_take_171 : decode cX2_take 171 = .ok (.putfield 18, 3) := by decide +kernel
theorem dX2_take_174 : decode cX2_take 174 = .ok (.iinc 5 1, 3) := by decide +kernel
theorem dX2_take_177 : decode cX2_take 177 = .ok (.goto (-162), 3) := by decide +kernel
theorem dX2_take_180 : decode cX2_take 180 = .ok (.aload_n 0, 1) := by decide +kernel
theorem dX2_take_181 : decode cX2_take 181 = .ok (.getfield 18, 3) := by decide +kernel
theorem dX2_take_184 : decode cX2_take 184 = .ok (.iconst 2, 1) := by decide +kernel
theorem dX2_take_185 : decode cX2_take 185 = .ok (.if_icmp .lt 7, 3) := by decide +kernel
theorem dX2_take_188 : decode cX2_take 188 = .ok (.iconst 1, 1) := by decide +kernel
theorem dX2_take_189 : decode cX2_take 189 = .ok (.goto 4, 3) := by decide +kernel
theorem dX2_take_192 : decode cX2_take 192 = .ok (.iconst 0, 1) := by decide +kernel
theorem dX2_take_193 : decode cX2_take 193 = .ok (.ireturn, 1) := by decide +kernel
theorem dX2_seek_0 : decode cX2_seek 0 = .ok (.aload_n 0, 1) := by decide +kernel
theorem dX2_seek_1 : decode cX2_seek 1 = .ok (.iconst (-1), 1) := by decide +kernel
theorem dX2_seek_2 : decode cX2_seek 2 = .ok (.putfield 22, 3) := by decide +kernel
theorem dX2_seek_5 : decode cX2_seek 5 = .ok (.iconst 0, 1) := by decide +kernel
theorem dX2_seek_6 : decode cX2_seek 6 = .ok (.istore_n 3, 1) := by decide +kernel
theorem dX2_seek_7 : decode cX2_seek 7 = .ok (.iload_n 3, 1) := by decide +kernel
theorem dX2_seek_8 : decode cX2_seek 8 = .ok (.bipush 120, 2) := by decide +kernel
theorem dX2_seek_10 : decode cX2_seek 10 = .ok (.if_icmp .ge 57, 3) := by decide +kernel
theorem dX2_seek_13 : decode cX2_seek 13 = .ok (.aload_n 0, 1) := by decide +kernel
theorem dX2_seek_14 : decode cX2_seek 14 = .ok (.aload_n 1, 1) := by decide +kernel
theorem dX2_seek_15 : decode cX2_seek 15 = .ok (.aload_n 2, 1) := by decide +kernel
theorem dX2_seek_16 : decode cX2_seek 16 = .ok (.invokevirtual 46, 3) := by decide +kernel
theorem dX2_seek_19 : decode cX2_seek 19 = .ok (.istore 4, 2) := by decide +kernel
theorem dX2_seek_21 : decode cX2_seek 21 = .ok (.iload 4, 2) := by decide +kernel
theorem dX2_seek_23 : decode cX2_seek 23 = .ok (.aload_n 0, 1) := by decide +kernel
theorem dX2_seek_24 : decode cX2_seek 24 = .ok (.getfield 22, 3) := by decide +kernel
theorem dX2_seek_27 : decode cX2_seek 27 = .ok (.if_icmp .le 26, 3) := by decide +kernel
theorem dX2_seek_30 : decode cX2_seek 30 = .ok (.aload_n 0, 1) := by decide +kernel
theorem dX2_seek_31 : decode cX2_seek 31 = .ok (.iload 4, 2) := by decide +kernel
theorem dX2_seek_33 : decode cX2_seek 33 = .ok (.putfield 22, 3) := by decide +kernel
theorem dX2_seek_36 : decode cX2_seek 36 = .ok (.aload_n 0, 1) := by decide +kernel
theorem dX2_seek_37 : decode cX2_seek 37 = .ok (.getfield 9, 3) := by decide +kernel
theorem dX2_seek_40 : decode cX2_seek 40 = .ok (.iconst 0, 1) := by decide +kernel
theorem dX2_seek_41 : decode cX2_seek 41 = .ok (.aload_n 0, 1) := by decide +kernel
theorem dX2_seek_42 : decode cX2_seek 42 = .ok (.getfield 15, 3) := by decide +kernel
theorem dX2_seek_45 : decode cX2_seek 45 = .ok (.iconst 0, 1) := by decide +kernel
theorem dX2_seek_46 : decode cX2_seek 46 = .ok (.aload_n 0, 1) := by decide +kernel
theorem dX2_seek_47 : decode cX2_seek 47 = .ok (.getfield 18, 3) := by decide +kernel
theorem dX2_seek_50 : decode cX2_seek 50 = .ok (.invokestatic 50, 3) := by decide +kernel
theorem dX2_seek_53 : decode cX2_seek 53 = .ok (.aload_n 0, 1) := by decide +kernel
theorem dX2_seek_54 : decode cX2_seek 54 = .ok (.invokevirtual 56, 3) := by decide +kernel
theorem dX2_seek_57 : decode cX2_seek 57 = .ok (.ifCond .ne 4, 3) := by decide +kernel
theorem dX2_seek_60 : decode cX2_seek 60 = .ok (.return_, 1) := by decide +kernel
theorem dX2_seek_61 : decode cX2_seek 61 = .ok (.iinc 3 1, 3) := by decide +kernel
theorem dX2_seek_64 : decode cX2_seek 64 = .ok (.goto (-57), 3) := by decide +kernel
theorem dX2_seek_67 : decode cX2_seek 67 = .ok (.return_, 1) := by decide +kernel
theorem dX2_factsOf_0 : decode cX2_factsOf 0 = .ok (.aload_n 0, 1) := by decide +kernel
theorem dX2_factsOf_1 : decode cX2_factsOf 1 = .ok (.getfield 9, 3) := by decide +kernel
theorem dX2_factsOf_4 : decode cX2_factsOf 4 = .ok (.iconst 0, 1) := by decide +kernel
theorem dX2_factsOf_5 : decode cX2_factsOf 5 = .ok (.iaload, 1) := by decide +kernel
theorem dX2_factsOf_6 : decode cX2_factsOf 6 = .ok (.istore_n 3, 1) := by decide +kernel
theorem dX2_factsOf_7 : decode cX2_factsOf 7 = .ok (.aload_n 2, 1) := by decide +kernel
theorem dX2_factsOf_8 : decode cX2_factsOf 8 = .ok (.getfield 37, 3) := by decide +kernel
theorem dX2_factsOf_11 : decode cX2_factsOf 11 = .ok (.iload_n 3, 1) := by decide +kernel
theorem dX2_factsOf_12 : decode cX2_factsOf 12 = .ok (.aaload, 1) := by decide +kernel
theorem dX2_factsOf_13 : decode cX2_factsOf 13 = .ok (.getfield 60, 3) := by decide +kernel
theorem dX2_factsOf_16 : decode cX2_factsOf 16 = .ok (.istore 4, 2) := by decide +kernel
theorem dX2_factsOf_18 : decode cX2_factsOf 18 = .ok (.aload_n 2, 1) := by decide +kernel
theorem dX2_factsOf_19 : decode cX2_factsOf 19 = .ok (.getfield 37, 3) := by decide +kernel
theorem dX2_factsOf_22 : decode cX2_factsOf 22 = .ok (.iload_n 3, 1) := by decide +kernel
theorem dX2_factsOf_23 : decode cX2_factsOf 23 = .ok (.aaload, 1) := by decide +kernel
theorem dX2_factsOf_24 : decode cX2_factsOf 24 = .ok (.getfield 63, 3) := by decide +kernel
theorem dX2_factsOf_27 : decode cX2_factsOf 27 = .ok (.istore 5, 2) := by decide +kernel
theorem dX2_factsOf_29 : decode cX2_factsOf 29 = .ok (.iconst 1, 1) := by decide +kernel
theorem dX2_factsOf_30 : decode cX2_factsOf 30 = .ok (.istore 6, 2) := by decide +kernel
theorem dX2_factsOf_32 : decode cX2_factsOf 32 = .ok (.iload 6, 2) := by decide +kernel
theorem dX2_factsOf_34 : decode cX2_factsOf 34 = .ok (.aload_n 0, 1) := by decide +kernel
theorem dX2_factsOf_35 : decode cX2_factsOf 35 = .ok (.getfield 18, 3) := by decide +kernel
theorem dX2_factsOf_38 : decode cX2_factsOf 38 = .ok (.if_icmp .ge 173, 3) := by decide +kernel
theorem dX2_factsOf_41 : decode cX2_factsOf 41 = .ok (.aload_n 2, 1) := by decide +kernel
theorem dX2_factsOf_42 : decode cX2_factsOf 42 = .ok (.getfield 37, 3) := by decide +kernel
theorem dX2_factsOf_45 : decode cX2_factsOf 45 = .ok (.aload_n 0, 1) := by decide +kernel
theorem dX2_factsOf_46 : decode cX2_factsOf 46 = .ok (.getfield 9, 3) := by decide +kernel
theorem dX2_factsOf_49 : decode cX2_factsOf 49 = .ok (.iload 6, 2) := by decide +kernel
theorem dX2_factsOf_51 : decode cX2_factsOf 51 = .ok (.iaload, 1) := by decide +kernel
theorem dX2_factsOf_52 : decode cX2_factsOf 52 = .ok (.aaload, 1) := by decide +kernel
theorem dX2_factsOf_53 : decode cX2_factsOf 53 = .ok (.astore 7, 2) := by decide +kernel
theorem dX2_factsOf_55 : decode cX2_factsOf 55 = .ok (.iload 4, 2) := by decide +kernel
theorem dX2_factsOf_57 : decode cX2_factsOf 57 = .ok (.aload 7, 2) := by decide +kernel
theorem dX2_factsOf_59 : decode cX2_factsOf 59 = .ok (.getfield 60, 3) := by decide +kernel
theorem dX2_factsOf_62 : decode cX2_factsOf 62 = .ok (.iand, 1) := by decide +kernel
theorem dX2_factsOf_63 : decode cX2_factsOf 63 = .ok (.iload 5, 2) := by decide +kernel
theorem dX2_factsOf_65 : decode cX2_factsOf 65 = .ok (.aload 7, 2) := by decide +kernel
theorem dX2_factsOf_67 : decode cX2_factsOf 67 = .ok (.getfield 63, 3) := by decide +kernel
theorem dX2_factsOf_70 : decode cX2_factsOf 70 = .ok (.ixor, 1) := by decide +kernel
theorem dX2_factsOf_71 : decode cX2_factsOf 71 = .ok (.iand, 1) := by decide +kernel
theorem dX2_factsOf_72 : decode cX2_factsOf 72 = .ok (.istore 8, 2) := by decide +kernel
theorem dX2_factsOf_74 : decode cX2_factsOf 74 = .ok (.aload_n 2, 1) := by decide +kernel
theorem dX2_factsOf_75 : decode cX2_factsOf 75 = .ok (.getfield 37, 3) := by decide +kernel
theorem dX2_factsOf_78 : decode cX2_factsOf 78 = .ok (.iload_n 3, 1) := by decide +kernel
theorem dX2_factsOf_79 : decode cX2_factsOf 79 = .ok (.aload 7, 2) := by decide +kernel
theorem dX2_factsOf_81 : decode cX2_factsOf 81 = .ok (.getfield 66, 3) := by decide +kernel
theorem dX2_factsOf_84 : decode cX2_factsOf 84 = .ok (.invokestatic 69, 3) := by decide +kernel
theorem dX2_factsOf_87 : decode cX2_factsOf 87 = .ok (.aaload, 1) := by decide +kernel
theorem dX2_factsOf_88 : decode cX2_factsOf 88 = .ok (.astore 9, 2) := by decide +kernel
theorem dX2_factsOf_90 : decode cX2_factsOf 90 = .ok (.aload_n 2, 1) := by decide +kernel
theorem dX2_factsOf_91 : decode cX2_factsOf 91 = .ok (.getfield 37, 3) := by decide +kernel
theorem dX2_factsOf_94 : decode cX2_factsOf 94 = .ok (.iload_n 3, 1) := by decide +kernel
theorem dX2_factsOf_95 : decode cX2_factsOf 95 = .ok (.aload 7, 2) := by decide +kernel
theorem dX2_factsOf_97 : decode cX2_factsOf 97 = .ok (.getfield 66, 3) := by decide +kernel
theorem dX2_factsOf_100 : decode cX2_factsOf 100 = .ok (.invokestatic 75, 3) := by decide +kernel
theorem dX2_factsOf_103 : decode cX2_factsOf 103 = .ok (.aaload, 1) := by decide +kernel
theorem dX2_factsOf_104 : decode cX2_factsOf 104 = .ok (.astore 10, 2) := by decide +kernel
theorem dX2_factsOf_106 : decode cX2_factsOf 106 = .ok (.iload 8, 2) := by decide +kernel
theorem dX2_factsOf_108 : decode cX2_factsOf 108 = .ok (.ifCond .ne 7, 3) := by decide +kernel
theorem dX2_factsOf_111 : decode cX2_factsOf 111 = .ok (.iconst 0, 1) := by decide +kernel
theorem dX2_factsOf_112 : decode cX2_factsOf 112 = .ok (.goto 18, 3) := by decide +kernel
theorem dX2_factsOf_115 : decode cX2_factsOf 115 = .ok (.iload 8, 2) := by decide +kernel
theorem dX2_factsOf_117 : decode cX2_factsOf 117 = .ok (.aload_n 1, 1) := by decide +kernel
theorem dX2_factsOf_118 : decode cX2_factsOf 118 = .ok (.aload 9, 2) := by decide +kernel
theorem dX2_factsOf_120 : decode cX2_factsOf 120 = .ok (.aload 10, 2) := by decide +kernel
theorem dX2_factsOf_122 : decode cX2_factsOf 122 = .ok (.iload 8, 2) := by decide +kernel
theorem dX2_factsOf_124 : decode cX2_factsOf 124 = .ok (.invokevirtual 78, 3) := by decide +kernel
theorem dX2_factsOf_127 : decode cX2_factsOf 127 = .ok (.iconst (-1), 1) := by decide +kernel
theorem dX2_factsOf_128 : decode cX2_factsOf 128 = .ok (.ixor, 1) := by decide +kernel
theorem dX2_factsOf_129 : decode cX2_factsOf 129 = .ok (.iand, 1) := by decide +kernel
theorem dX2_factsOf_130 : decode cX2_factsOf 130 = .ok (.istore 11, 2) := by decide +kernel
theorem dX2_factsOf_132 : decode cX2_factsOf 132 = .ok (.iload_n 3, 1) := by decide +kernel
theorem dX2_factsOf_133 : decode cX2_factsOf 133 = .ok (.aload 7, 2) := by decide +kernel
theorem dX2_factsOf_135 : decode cX2_factsOf 135 = .ok (.getfield 66, 3) := by decide +kernel
theorem dX2_factsOf_138 : decode cX2_factsOf 138 = .ok (.if_icmp .ge 21, 3) := by decide +kernel
theorem dX2_factsOf_141 : decode cX2_factsOf 141 = .ok (.iload 5, 2) := by decide +kernel
theorem dX2_factsOf_143 : decode cX2_factsOf 143 = .ok (.aload 7, 2) := by decide +kernel
theorem dX2_factsOf_145 : decode cX2_factsOf 145 = .ok (.getfield 63, 3) := by decide +kernel
theorem dX2_factsOf_148 : decode cX2_factsOf 148 = .ok (.iload 4, 2) := by decide +kernel
theorem dX2_factsOf_150 : decode cX2_factsOf 150 = .ok (.iconst (-1), 1) := by decide +kernel
theorem dX2_factsOf_151 : decode cX2_factsOf 151 = .ok (.ixor, 1) := by decide +kernel
theorem dX2_factsOf_152 : decode cX2_factsOf 152 = .ok (.iand, 1) := by decide +kernel
theorem dX2_factsOf_153 : decode cX2_factsOf 153 = .ok (.ior, 1) := by decide +kernel
theorem dX2_factsOf_154 : decode cX2_factsOf 154 = .ok (.istore 5, 2) := by decide +kernel
theorem dX2_factsOf_156 : decode cX2_factsOf 156 = .ok (.goto 21, 3) := by decide +kernel
theorem dX2_factsOf_159 : decode cX2_factsOf 159 = .ok (.aload 7, 2) := by decide +kernel
theorem dX2_factsOf_161 : decode cX2_factsOf 161 = .ok (.getfield 63, 3) := by decide +kernel
theorem dX2_factsOf_164 : decode cX2_factsOf 164 = .ok (.iload 5, 2) := by decide +kernel
theorem dX2_factsOf_166 : decode cX2_factsOf 166 = .ok (.aload 7, 2) := by decide +kernel
theorem dX2_factsOf_168 : decode cX2_factsOf 168 = .ok (.getfield 60, 3) := by decide +kernel
theorem dX2_factsOf_171 : decode cX2_factsOf 171 = .ok (.iconst (-1), 1) := by decide +kernel
theorem dX2_factsOf_172 : decode cX2_factsOf 172 = .ok (.ixor, 1) := by decide +kernel
theorem dX2_factsOf_173 : decode cX2_factsOf 173 = .ok (.iand, 1) := by decide +kernel
theorem dX2_factsOf_174 : decode cX2_factsOf 174 = .ok (.ior, 1) := by decide +kernel
theorem dX2_factsOf_175 : decode cX2_factsOf 175 = .ok (.istore 5, 2) := by decide +kernel
theorem dX2_factsOf_177 : decode cX2_factsOf 177 = .ok (.iload 4, 2) := by decide +kernel
theorem dX2_factsOf_179 : decode cX2_factsOf 179 = .ok (.aload 7, 2) := by decide +kernel
theorem dX2_factsOf_181 : decode cX2_factsOf 181 = .ok (.getfield 60, 3) := by decide +kernel
theorem dX2_factsOf_184 : decode cX2_factsOf 184 = .ok (.ior, 1) := by decide +kernel
theorem dX2_factsOf_185 : decode cX2_factsOf 185 = .ok (.iload 11, 2) := by decide +kernel
theorem dX2_factsOf_187 : decode cX2_factsOf 187 = .ok (.iconst (-1), 1) := by decide +kernel
theorem dX2_factsOf_188 : decode cX2_factsOf 188 = .ok (.ixor, 1) := by decide +kernel
theorem dX2_factsOf_189 : decode cX2_factsOf 189 = .ok (.iand, 1) := by decide +kernel
theorem dX2_factsOf_190 : decode cX2_factsOf 190 = .ok (.istore 4, 2) := by decide +kernel
theorem dX2_factsOf_192 : decode cX2_factsOf 192 = .ok (.iload 5, 2) := by decide +kernel
theorem dX2_factsOf_194 : decode cX2_factsOf 194 = .ok (.iload 4, 2) := by decide +kernel
theorem dX2_factsOf_196 : decode cX2_factsOf 196 = .ok (.iand, 1) := by decide +kernel
theorem dX2_factsOf_197 : decode cX2_factsOf 197 = .ok (.istore 5, 2) := by decide +kernel
theorem dX2_factsOf_199 : decode cX2_factsOf 199 = .ok (.aload 9, 2) := by decide +kernel
theorem dX2_factsOf_201 : decode cX2_factsOf 201 = .ok (.getfield 66, 3) := by decide +kernel
theorem dX2_factsOf_204 : decode cX2_factsOf 204 = .ok (.istore_n 3, 1) := by decide +kernel
theorem dX2_factsOf_205 : decode cX2_factsOf 205 = .ok (.iinc 6 1, 3) := by decide +kernel
theorem dX2_factsOf_208 : decode cX2_factsOf 208 = .ok (.goto (-176), 3) := by decide +kernel
theorem dX2_factsOf_211 : decode cX2_factsOf 211 = .ok (.iload 4, 2) := by decide +kernel
theorem dX2_factsOf_213 : decode cX2_factsOf 213 = .ok (.invokestatic 84, 3) := by decide +kernel
theorem dX2_factsOf_216 : decode cX2_factsOf 216 = .ok (.ireturn, 1) := by decide +kernel
theorem dX2_goOn_0 : decode cX2_goOn 0 = .ok (.aload_n 0, 1) := by decide +kernel
theorem dX2_goOn_1 : decode cX2_goOn 1 = .ok (.getfield 18, 3) := by decide +kernel
theorem dX2_goOn_4 : decode cX2_goOn 4 = .ok (.iconst 2, 1) := by decide +kernel
theorem dX2_goOn_5 : decode cX2_goOn 5 = .ok (.isub, 1) := by decide +kernel
theorem dX2_goOn_6 : decode cX2_goOn 6 = .ok (.istore_n 1, 1) := by decide +kernel
theorem dX2_goOn_7 : decode cX2_goOn 7 = .ok (.iload_n 1, 1) := by decide +kernel
theorem dX2_goOn_8 : decode cX2_goOn 8 = .ok (.ifCond .lt 26, 3) := by decide +kernel
theorem dX2_goOn_11 : decode cX2_goOn 11 = .ok (.aload_n 0, 1) := by decide +kernel
theorem dX2_goOn_12 : decode cX2_goOn 12 = .ok (.getfield 9, 3) := by decide +kernel
theorem dX2_goOn_15 : decode cX2_goOn 15 = .ok (.iload_n 1, 1) := by decide +kernel
theorem dX2_goOn_16 : decode cX2_goOn 16 = .ok (.iaload, 1) := by decide +kernel
theorem dX2_goOn_17 : decode cX2_goOn 17 = .ok (.aload_n 0, 1) := by decide +kernel
theorem dX2_goOn_18 : decode cX2_goOn 18 = .ok (.getfield 9, 3) := by decide +kernel
theorem dX2_goOn_21 : decode cX2_goOn 21 = .ok (.iload_n 1, 1) := by decide +kernel
theorem dX2_goOn_22 : decode cX2_goOn 22 = .ok (.iconst 1, 1) := by decide +kernel
theorem dX2_goOn_23 : decode cX2_goOn 23 = .ok (.iadd, 1) := by decide +kernel
theorem dX2_goOn_24 : decode cX2_goOn 24 = .ok (.iaload, 1) := by decide +kernel
theorem dX2_goOn_25 : decode cX2_goOn 25 = .ok (.if_icmp .le 9, 3) := by decide +kernel
theorem dX2_goOn_28 : decode cX2_goOn 28 = .ok (.iinc 1 (-1), 3) := by decide +kernel
theorem dX2_goOn_31 : decode cX2_goOn 31 = .ok (.goto (-24), 3) := by decide +kernel
theorem dX2_goOn_34 : decode cX2_goOn 34 = .ok (.iload_n 1, 1) := by decide +kernel
theorem dX2_goOn_35 : decode cX2_goOn 35 = .ok (.ifCond .ge 5, 3) := by decide +kernel
theorem dX2_goOn_38 : decode cX2_goOn 38 = .ok (.iconst 0, 1) := by decide +kernel
theorem dX2_goOn_39 : decode cX2_goOn 39 = .ok (.ireturn, 1) := by decide +kernel
theorem dX2_goOn_40 : decode cX2_goOn 40 = .ok (.aload_n 0, 1) := by decide +kernel
theorem dX2_goOn_41 : decode cX2_goOn 41 = .ok (.getfield 18, 3) := by decide +kernel
theorem dX2_goOn_44 : decode cX2_goOn 44 = .ok (.iconst 1, 1) := by decide +kernel
theorem dX2_goOn_45 : decode cX2_goOn 45 = .ok (.isub, 1) := by decide +kernel
theorem dX2_goOn_46 : decode cX2_goOn 46 = .ok (.istore_n 2, 1) := by decide +kernel
theorem dX2_goOn_47 : decode cX2_goOn 47 = .ok (.iload_n 2, 1) := by decide +kernel
theorem dX2_goOn_48 : decode cX2_goOn 48 = .ok (.iload_n 1, 1) := by decide +kernel
theorem dX2_goOn_49 : decode cX2_goOn 49 = .ok (.if_icmp .le 24, 3) := by decide +kernel
theorem dX2_goOn_52 : decode cX2_goOn 52 = .ok (.aload_n 0, 1) := by decide +kernel
theorem dX2_goOn_53 : decode cX2_goOn 53 = .ok (.getfield 9, 3) := by decide +kernel
theorem dX2_goOn_56 : decode cX2_goOn 56 = .ok (.iload_n 2, 1) := by decide +kernel
theorem dX2_goOn_57 : decode cX2_goOn 57 = .ok (.iaload, 1) := by decide +kernel
theorem dX2_goOn_58 : decode cX2_goOn 58 = .ok (.aload_n 0, 1) := by decide +kernel
theorem dX2_goOn_59 : decode cX2_goOn 59 = .ok (.getfield 9, 3) := by decide +kernel
theorem dX2_goOn_62 : decode cX2_goOn 62 = .ok (.iload_n 1, 1) := by decide +kernel
theorem dX2_goOn_63 : decode cX2_goOn 63 = .ok (.iaload, 1) := by decide +kernel
theorem dX2_goOn_64 : decode cX2_goOn 64 = .ok (.if_icmp .ge 9, 3) := by decide +kernel
theorem dX2_goOn_67 : decode cX2_goOn 67 = .ok (.iinc 2 (-1), 3) := by decide +kernel
theorem dX2_goOn_70 : decode cX2_goOn 70 = .ok (.goto (-23), 3) := by decide +kernel
theorem dX2_goOn_73 : decode cX2_goOn 73 = .ok (.aload_n 0, 1) := by decide +kernel
theorem dX2_goOn_74 : decode cX2_goOn 74 = .ok (.iload_n 1, 1) := by decide +kernel
theorem dX2_goOn_75 : decode cX2_goOn 75 = .ok (.iload_n 2, 1) := by decide +kernel
theorem dX2_goOn_76 : decode cX2_goOn 76 = .ok (.invokevirtual 89, 3) := by decide +kernel
theorem dX2_goOn_79 : decode cX2_goOn 79 = .ok (.aload_n 0, 1) := by decide +kernel
theorem dX2_goOn_80 : decode cX2_goOn 80 = .ok (.getfield 18, 3) := by decide +kernel
theorem dX2_goOn_83 : decode cX2_goOn 83 = .ok (.iconst 1, 1) := by decide +kernel
theorem dX2_goOn_84 : decode cX2_goOn 84 = .ok (.isub, 1) := by decide +kernel
theorem dX2_goOn_85 : decode cX2_goOn 85 = .ok (.istore_n 3, 1) := by decide +kernel
theorem dX2_goOn_86 : decode cX2_goOn 86 = .ok (.iload_n 1, 1) := by decide +kernel
theorem dX2_goOn_87 : decode cX2_goOn 87 = .ok (.iconst 1, 1) := by decide +kernel
theorem dX2_goOn_88 : decode cX2_goOn 88 = .ok (.iadd, 1) := by decide +kernel
theorem dX2_goOn_89 : decode cX2_goOn 89 = .ok (.istore 4, 2) := by decide +kernel
theorem dX2_goOn_91 : decode cX2_goOn 91 = .ok (.iload 4, 2) := by decide +kernel
theorem dX2_goOn_93 : decode cX2_goOn 93 = .ok (.iload_n 3, 1) := by decide +kernel
theorem dX2_goOn_94 : decode cX2_goOn 94 = .ok (.if_icmp .ge 19, 3) := by decide +kernel
theorem dX2_goOn_97 : decode cX2_goOn 97 = .ok (.aload_n 0, 1) := by decide +kernel
theorem dX2_goOn_98 : decode cX2_goOn 98 = .ok (.iload 4, 2) := by decide +kernel
theorem dX2_goOn_100 : decode cX2_goOn 100 = .ok (.iload_n 3, 1) := by decide +kernel
theorem dX2_goOn_101 : decode cX2_goOn 101 = .ok (.invokevirtual 89, 3) := by decide +kernel
theorem dX2_goOn_104 : decode cX2_goOn 104 = .ok (.iinc 3 (-1), 3) := by decide +kernel
theorem dX2_goOn_107 : decode cX2_goOn 107 = .ok (.iinc 4 1, 3) := by decide +kernel
theorem dX2_goOn_110 : decode cX2_goOn 110 = .ok (.goto (-19), 3) := by decide +kernel
theorem dX2_goOn_113 : decode cX2_goOn 113 = .ok (.iconst 1, 1) := by decide +kernel
theorem dX2_goOn_114 : decode cX2_goOn 114 = .ok (.ireturn, 1) := by decide +kernel
theorem dX2_swap_0 : decode cX2_swap 0 = .ok (.aload_n 0, 1) := by decide +kernel
theorem dX2_swap_1 : decode cX2_swap 1 = .ok (.getfield 9, 3) := by decide +kernel
theorem dX2_swap_4 : decode cX2_swap 4 = .ok (.iload_n 1, 1) := by decide +kernel
theorem dX2_swap_5 : decode cX2_swap 5 = .ok (.iaload, 1) := by decide +kernel
theorem dX2_swap_6 : decode cX2_swap 6 = .ok (.istore_n 3, 1) := by decide +kernel
theorem dX2_swap_7 : decode cX2_swap 7 = .ok (.aload_n 0, 1) := by decide +kernel
theorem dX2_swap_8 : decode cX2_swap 8 = .ok (.getfield 9, 3) := by decide +kernel
theorem dX2_swap_11 : decode cX2_swap 11 = .ok (.iload_n 1, 1) := by decide +kernel
theorem dX2_swap_12 : decode cX2_swap 12 = .ok (.aload_n 0, 1) := by decide +kernel
theorem dX2_swap_13 : decode cX2_swap 13 = .ok (.getfield 9, 3) := by decide +kernel
theorem dX2_swap_16 : decode cX2_swap 16 = .ok (.iload_n 2, 1) := by decide +kernel
theorem dX2_swap_17 : decode cX2_swap 17 = .ok (.iaload, 1) := by decide +kernel
theorem dX2_swap_18 : decode cX2_swap 18 = .ok (.iastore, 1) := by decide +kernel
theorem dX2_swap_19 : decode cX2_swap 19 = .ok (.aload_n 0, 1) := by decide +kernel
theorem dX2_swap_20 : decode cX2_swap 20 = .ok (.getfield 9, 3) := by decide +kernel
theorem dX2_swap_23 : decode cX2_swap 23 = .ok (.iload_n 2, 1) := by decide +kernel
theorem dX2_swap_24 : decode cX2_swap 24 = .ok (.iload_n 3, 1) := by decide +kernel
theorem dX2_swap_25 : decode cX2_swap 25 = .ok (.iastore, 1) := by decide +kernel
theorem dX2_swap_26 : decode cX2_swap 26 = .ok (.return_, 1) := by decide +kernel
theorem dX3_init_0 : decode cX3_init 0 = .ok (.aload_n 0, 1) := by decide +kernel
theorem dX3_init_1 : decode cX3_init 1 = .ok (.invokespecial 3, 3) := by decide +kernel
theorem dX3_init_4 : decode cX3_init 4 = .ok (.aload_n 0, 1) := by decide +kernel
theorem dX3_init_5 : decode cX3_init 5 = .ok (.sipush 240, 3) := by decide +kernel
theorem dX3_init_8 : decode cX3_init 8 = .ok (.newarray .int, 2) := by decide +kernel
theorem dX3_init_10 : decode cX3_init 10 = .ok (.putfield 9, 3) := by decide +kernel
theorem dX3_init_13 : decode cX3_init 13 = .ok (.aload_n 0, 1) := by decide +kernel
theorem dX3_init_14 : decode cX3_init 14 = .ok (.sipush 240, 3) := by decide +kernel
theorem dX3_init_17 : decode cX3_init 17 = .ok (.newarray .int, 2) := by decide +kernel
theorem dX3_init_19 : decode cX3_init 19 = .ok (.putfield 15, 3) := by decide +kernel
theorem dX3_init_22 : decode cX3_init 22 = .ok (.aload_n 0, 1) := by decide +kernel
theorem dX3_init_23 : decode cX3_init 23 = .ok (.bipush 16, 2) := by decide +kernel
theorem dX3_init_25 : decode cX3_init 25 = .ok (.newarray .int, 2) := by decide +kernel
theorem dX3_init_27 : decode cX3_init 27 = .ok (.putfield 18, 3) := by decide +kernel
theorem dX3_init_30 : decode cX3_init 30 = .ok (.aload_n 0, 1) := by decide +kernel
theorem dX3_init_31 : decode cX3_init 31 = .ok (.bipush 16, 2) := by decide +kernel
theorem dX3_init_33 : decode cX3_init 33 = .ok (.newarray .int, 2) := by decide +kernel
theorem dX3_init_35 : decode cX3_init 35 = .ok (.putfield 21, 3) := by decide +kernel
theorem dX3_init_38 : decode cX3_init 38 = .ok (.aload_n 0, 1) := by decide +kernel
theorem dX3_init_39 : decode cX3_init 39 = .ok (.bipush 16, 2) := by decide +kernel
theorem dX3_init_41 : decode cX3_init 41 = .ok (.newarray .int, 2) := by decide +kernel
theorem dX3_init_43 : decode cX3_init 43 = .ok (.putfield 24, 3) := by decide +kernel
theorem dX3_init_46 : decode cX3_init 46 = .ok (.aload_n 0, 1) := by decide +kernel
theorem dX3_init_47 : decode cX3_init 47 = .ok (.bipush 16, 2) := by decide +kernel
theorem dX3_init_49 : decode cX3_init 49 = .ok (.newarray .int, 2) := by decide +kernel
theorem dX3_init_51 : decode cX3_init 51 = .ok (.putfield 27, 3) := by decide +kernel
theorem dX3_init_54 : decode cX3_init 54 = .ok (.aload_n 0, 1) := by decide +kernel
theorem dX3_init_55 : decode cX3_init 55 = .ok (.bipush 32, 2) := by decide +kernel
theorem dX3_init_57 : decode cX3_init 57 = .ok (.newarray .int, 2) := by decide +kernel
theorem dX3_init_59 : decode cX3_init 59 = .ok (.putfield 30, 3) := by decide +kernel
theorem dX3_init_62 : decode cX3_init 62 = .ok (.aload_n 0, 1) := by decide +kernel
theorem dX3_init_63 : decode cX3_init 63 = .ok (.iconst 0, 1) := by decide +kernel
theorem dX3_init_64 : decode cX3_init 64 = .ok (.putfield 33, 3) := by decide +kernel
theorem dX3_init_67 : decode cX3_init 67 = .ok (.aload_n 0, 1) := by decide +kernel
theorem dX3_init_68 : decode cX3_init 68 = .ok (.iconst 0, 1) := by decide +kernel
theorem dX3_init_69 : decode cX3_init 69 = .ok (.putfield 37, 3) := by decide +kernel
theorem dX3_init_72 : decode cX3_init 72 = .ok (.return_, 1) := by decide +kernel
theorem dX3_clear_0 : decode cX3_clear 0 = .ok (.aload_n 0, 1) := by decide +kernel
theorem dX3_clear_1 : decode cX3_clear 1 = .ok (.iconst 0, 1) := by decide +kernel
theorem dX3_clear_2 : decode cX3_clear 2 = .ok (.putfield 33, 3) := by decide +kernel
theorem dX3_clear_5 : decode cX3_clear 5 = .ok (.aload_n 0, 1) := by decide +kernel
theorem dX3_clear_6 : decode cX3_clear 6 = .ok (.iconst 0, 1) := by decide +kernel
theorem dX3_clear_7 : decode cX3_clear 7 = .ok (.putfield 37, 3) := by decide +kernel
theorem dX3_clear_10 : decode cX3_clear 10 = .ok (.return_, 1) := by decide +kernel
theorem dX3_add_0 : decode cX3_add 0 = .ok (.aload_n 0, 1) := by decide +kernel
theorem dX3_add_1 : decode cX3_add 1 = .ok (.getfield 33, 3) := by decide +kernel
theorem dX3_add_4 : decode cX3_add 4 = .ok (.aload_n 0, 1) := by decide +kernel
theorem dX3_add_5 : decode cX3_add 5 = .ok (.getfield 9, 3) := by decide +kernel
theorem dX3_add_8 : decode cX3_add 8 = .ok (.arraylength, 1) := by decide +kernel
theorem dX3_add_9 : decode cX3_add 9 = .ok (.if_icmp .ge 33, 3) := by decide +kernel
theorem dX3_add_12 : decode cX3_add 12 = .ok (.aload_n 0, 1) := by decide +kernel
theorem dX3_add_13 : decode cX3_add 13 = .ok (.getfield 9, 3) := by decide +kernel
theorem dX3_add_16 : decode cX3_add 16 = .ok (.aload_n 0, 1) := by decide +kernel
theorem dX3_add_17 : decode cX3_add 17 = .ok (.getfield 33, 3) := by decide +kernel
theorem dX3_add_20 : decode cX3_add 20 = .ok (.iload_n 1, 1) := by decide +kernel
theorem dX3_add_21 : decode cX3_add 21 = .ok (.iastore, 1) := by decide +kernel
theorem dX3_add_22 : decode cX3_add 22 = .ok (.aload_n 0, 1) := by decide +kernel
theorem dX3_add_23 : decode cX3_add 23 = .ok (.getfield 15, 3) := by decide +kernel
theorem dX3_add_26 : decode cX3_add 26 = .ok (.aload_n 0, 1) := by decide +kernel
theorem dX3_add_27 : decode cX3_add 27 = .ok (.getfield 33, 3) := by decide +kernel
theorem dX3_add_30 : decode cX3_add 30 = .ok (.iload_n 2, 1) := by decide +kernel
theorem dX3_add_31 : decode cX3_add 31 = .ok (.iastore, 1) := by decide +kernel
theorem dX3_add_32 : decode cX3_add 32 = .ok (.aload_n 0, 1) := by decide +kernel
theorem dX3_add_33 : decode cX3_add 33 = .ok (.dup, 1) := by decide +kernel
theorem dX3_add_34 : decode cX3_add 34 = .ok (.getfield 33, 3) := by decide +kernel
theorem dX3_add_37 : decode cX3_add 37 = .ok (.iconst 1, 1) := by decide +kernel
theorem dX3_add_38 : decode cX3_add 38 = .ok (.iadd, 1) := by decide +kernel
theorem dX3_add_39 : decode cX3_add 39 = .ok (.putfield 33, 3) := by decide +kernel
theorem dX3_add_42 : decode cX3_add 42 = .ok (.return_, 1) := by decide +kernel
theorem dX3_value_0 : decode cX3_value 0 = .ok (.iconst 0, 1) := by decide +kernel
theorem dX3_value_1 : decode cX3_value 1 = .ok (.istore 4, 2) := by decide +kernel
theorem dX3_value_3 : decode cX3_value 3 = .ok (.iload 4, 2) := by decide +kernel
theorem dX3_value_5 : decode cX3_value 5 = .ok (.aload_n 0, 1) := by decide +kernel
theorem dX3_value_6 : decode cX3_value 6 = .ok (.getfield 37, 3) := by decide +kernel
theorem dX3_value_9 : decode cX3_value 9 = .ok (.if_icmp .ge 70, 3) := by decide +kernel
theorem dX3_value_12 : decode cX3_value 12 = .ok (.aload_n 0, 1) := by decide +kernel
theorem dX3_value_13 : decode cX3_value 13 = .ok (.getfield 18, 3) := by decide +kernel
theorem dX3_value_16 : decode cX3_value 16 = .ok (.iload 4, 2) := by decide +kernel
theorem dX3_value_18 : decode cX3_value 18 = .ok (.iaload, 1) := by decide +kernel
theorem dX3_value_19 : decode cX3_value 19 = .ok (.iload_n 1, 1) := by decide +kernel
theorem dX3_value_20 : decode cX3_value 20 = .ok (.if_icmp .ne 53, 3) := by decide +kernel
theorem dX3_value_23 : decode cX3_value 23 = .ok (.aload_n 0, 1) := by decide +kernel
theorem dX3_value_24 : decode cX3_value 24 = .ok (.aload_n 0, 1) := by decide +kernel
theorem dX3_value_25 : decode cX3_value 25 = .ok (.getfield 24, 3) := by decide +kernel
theorem dX3_value_28 : decode cX3_value 28 = .ok (.iload 4, 2) := by decide +kernel
theorem dX3_value_30 : decode cX3_value 30 = .ok (.iaload, 1) := by decide +kernel
theorem dX3_value_31 : decode cX3_value 31 = .ok (.aload_n 0, 1) := by decide +kernel
theorem dX3_value_32 : decode cX3_value 32 = .ok (.getfield 27, 3) := by decide +kernel
theorem dX3_value_35 : decode cX3_value 35 = .ok (.iload 4, 2) := by decide +kernel
theorem dX3_value_37 : decode cX3_value 37 = .ok (.iaload, 1) := by decide +kernel
theorem dX3_value_38 : decode cX3_value 38 = .ok (.aload_n 3, 1) := by decide +kernel
theorem dX3_value_39 : decode cX3_value 39 = .ok (.invokevirtual 40, 3) := by decide +kernel
theorem dX3_value_42 : decode cX3_value 42 = .ok (.ifCond .eq 31, 3) := by decide +kernel
theorem dX3_value_45 : decode cX3_value 45 = .ok (.iconst 0, 1) := by decide +kernel
theorem dX3_value_46 : decode cX3_value 46 = .ok (.iload_n 2, 1) := by decide +kernel
theorem dX3_value_47 : decode cX3_value 47 = .ok (.aload_n 0, 1) := by decide +kernel
theorem dX3_value_48 : decode cX3_value 48 = .ok (.aload_n 0, 1) := by decide +kernel
theorem dX3_value_49 : decode cX3_value 49 = .ok (.getfield 21, 3) := by decide +kernel
theorem dX3_value_52 : decode cX3_value 52 = .ok (.iload 4, 2) := by decide +kernel
theorem dX3_value_54 : decode cX3_value 54 = .ok (.iaload, 1) := by decide +kernel
theorem dX3_value_55 : decode cX3_value 55 = .ok (.aload_n 0, 1) := by decide +kernel
theorem dX3_value_56 : decode cX3_value 56 = .ok (.getfield 24, 3) := by decide +kernel
theorem dX3_value_59 : decode cX3_value 59 = .ok (.iload 4, 2) := by decide +kernel
theorem dX3_value_61 : decode cX3_value 61 = .ok (.iaload, 1) := by decide +kernel
theorem dX3_value_62 : decode cX3_value 62 = .ok (.aload_n 3, 1) := by decide +kernel
theorem dX3_value_63 : decode cX3_value 63 = .ok (.invokevirtual 40, 3) := by decide +kernel
theorem dX3_value_66 : decode cX3_value 66 = .ok (.invokestatic 44, 3) := by decide +kernel
theorem dX3_value_69 : decode cX3_value 69 = .ok (.invokestatic 50, 3) := by decide +kernel
theorem dX3_value_72 : decode cX3_value 72 = .ok (.ireturn, 1) := by decide +kernel
theorem dX3_value_73 : decode cX3_value 73 = .ok (.iinc 4 1, 3) := by decide +kernel
theorem dX3_value_76 : decode cX3_value 76 = .ok (.goto (-73), 3) := by decide +kernel
theorem dX3_value_79 : decode cX3_value 79 = .ok (.iconst 0, 1) := by decide +kernel
theorem dX3_value_80 : decode cX3_value 80 = .ok (.ireturn, 1) := by decide +kernel
theorem dX3_run_0 : decode cX3_run 0 = .ok (.iconst (-1), 1) := by decide +kernel
theorem dX3_run_1 : decode cX3_run 1 = .ok (.istore 4, 2) := by decide +kernel
theorem dX3_run_3 : decode cX3_run 3 = .ok (.iload_n 1, 1) := by decide +kernel
theorem dX3_run_4 : decode cX3_run 4 = .ok (.istore 5, 2) := by decide +kernel
theorem dX3_run_6 : decode cX3_run 6 = .ok (.iload 5, 2) := by decide +kernel
theorem dX3_run_8 : decode cX3_run 8 = .ok (.iload_n 2, 1) := by decide +kernel
theorem dX3_run_9 : decode cX3_run 9 = .ok (.if_icmp .ge 447, 3) := by decide +kernel
theorem dX3_run_12 : decode cX3_run 12 = .ok (.iload 5, 2) := by decide +kernel
theorem dX3_run_14 : decode cX3_run 14 = .ok (.aload_n 0, 1) := by decide +kernel
theorem dX3_run_15 : decode cX3_run 15 = .ok (.getfield 9, 3) := by decide +kernel
theorem dX3_run_18 : decode cX3_run 18 = .ok (.arraylength, 1) := by decide +kernel
theorem dX3_run_19 : decode cX3_run 19 = .ok (.if_icmp .ge 437, 3) := by decide +kernel
theorem dX3_run_22 : decode cX3_run 22 = .ok (.aload_n 0, 1) := by decide +kernel
theorem dX3_run_23 : decode cX3_run 23 = .ok (.getfield 9, 3) := by decide +kernel
theorem dX3_run_26 : decode cX3_run 26 = .ok (.iload 5, 2) := by decide +kernel
theorem dX3_run_28 : decode cX3_run 28 = .ok (.iaload, 1) := by decide +kernel
theorem dX3_run_29 : decode cX3_run 29 = .ok (.istore 6, 2) := by decide +kernel
theorem dX3_run_31 : decode cX3_run 31 = .ok (.iload 6, 2) := by decide +kernel
theorem dX3_run_33 : decode cX3_run 33 = .ok (.ifCond .eq 9, 3) := by decide +kernel
theorem dX3_run_36 : decode cX3_run 36 = .ok (.iload 6, 2) := by decide +kernel
theorem dX3_run_38 : decode cX3_run 38 = .ok (.iconst 1, 1) := by decide +kernel
theorem dX3_run_39 : decode cX3_run 39 = .ok (.if_icmp .ne 54, 3) := by decide +kernel
theorem dX3_run_42 : decode cX3_run 42 = .ok (.iload 4, 2) := by decide +kernel
theorem dX3_run_44 : decode cX3_run 44 = .ok (.iconst 1, 1) := by decide +kernel
theorem dX3_run_45 : decode cX3_run 45 = .ok (.iadd, 1) := by decide +kernel
theorem dX3_run_46 : decode cX3_run 46 = .ok (.aload_n 0, 1) := by decide +kernel
theorem dX3_run_47 : decode cX3_run 47 = .ok (.getfield 30, 3) := by decide +kernel
theorem dX3_run_50 : decode cX3_run 50 = .ok (.arraylength, 1) := by decide +kernel
theorem dX3_run_51 : decode cX3_run 51 = .ok (.if_icmp .lt 5, 3) := by decide +kernel
theorem dX3_run_54 : decode cX3_run 54 = .ok (.iconst 0, 1) := by decide +kernel
theorem dX3_run_55 : decode cX3_run 55 = .ok (.ireturn, 1) := by decide +kernel
theorem dX3_run_56 : decode cX3_run 56 = .ok (.iinc 4 1, 3) := by decide +kernel
theorem dX3_run_59 : decode cX3_run 59 = .ok (.aload_n 0, 1) := by decide +kernel
theorem dX3_run_60 : decode cX3_run 60 = .ok (.getfield 30, 3) := by decide +kernel
theorem dX3_run_63 : decode cX3_run 63 = .ok (.iload 4, 2) := by decide +kernel
theorem dX3_run_65 : decode cX3_run 65 = .ok (.iload 6, 2) := by decide +kernel
theorem dX3_run_67 : decode cX3_run 67 = .ok (.ifCond .ne 13, 3) := by decide +kernel
theorem dX3_run_70 : decode cX3_run 70 = .ok (.aload_n 0, 1) := by decide +kernel
theorem dX3_run_71 : decode cX3_run 71 = .ok (.getfield 15, 3) := by decide +kernel
theorem dX3_run_74 : decode cX3_run 74 = .ok (.iload 5, 2) := by decide +kernel
theorem dX3_run_76 : decode cX3_run 76 = .ok (.iaload, 1) := by decide +kernel
theorem dX3_run_77 : decode cX3_run 77 = .ok (.goto 12, 3) := by decide +kernel
theorem dX3_run_80 : decode cX3_run 80 = .ok (.aload_n 3, 1) := by decide +kernel
theorem dX3_run_81 : decode cX3_run 81 = .ok (.aload_n 0, 1) := by decide +kernel
theorem dX3_run_82 : decode cX3_run 82 = .ok (.getfield 15, 3) := by decide +kernel
theorem dX3_run_85 : decode cX3_run 85 = .ok (.iload 5, 2) := by decide +kernel
theorem dX3_run_87 : decode cX3_run 87 = .ok (.iaload, 1) := by decide +kernel
theorem dX3_run_88 : decode cX3_run 88 = .ok (.iaload, 1) := by decide +kernel
theorem dX3_run_89 : decode cX3_run 89 = .ok (.iastore, 1) := by decide +kernel
theorem dX3_run_90 : decode cX3_run 90 = .ok (.goto 360, 3) := by decide +kernel
theorem dX3_run_93 : decode cX3_run 93 = .ok (.iload 4, 2) := by decide +kernel
theorem dX3_run_95 : decode cX3_run 95 = .ok (.ifCond .ge 5, 3) := by decide +kernel
theorem dX3_run_98 : decode cX3_run 98 = .ok (.iconst 0, 1) := by decide +kernel
theorem dX3_run_99 : decode cX3_run 99 = .ok (.ireturn, 1) := by decide +kernel
theorem dX3_run_100 : decode cX3_run 100 = .ok (.aload_n 0, 1) := by decide +kernel
theorem dX3_run_101 : decode cX3_run 101 = .ok (.getfield 30, 3) := by decide +kernel
theorem dX3_run_104 : decode cX3_run 104 = .ok (.iload 4, 2) := by decide +kernel
theorem dX3_run_106 : decode cX3_run 106 = .ok (.iaload, 1) := by decide +kernel
theorem dX3_run_107 : decode cX3_run 107 = .ok (.istore 7, 2) := by decide +kernel
theorem dX3_run_109 : decode cX3_run 109 = .ok (.iload 6, 2) := by decide +kernel
theorem dX3_run_111 : decode cX3_run 111 = .ok (.iconst 2, 1) := by decide +kernel
theorem dX3_run_112 : decode cX3_run 112 = .ok (.if_icmp .ne 23, 3) := by decide +kernel
theorem dX3_run_115 : decode cX3_run 115 = .ok (.aload_n 0, 1) := by decide +kernel
theorem dX3_run_116 : decode cX3_run 116 = .ok (.getfield 30, 3) := by decide +kernel
theorem dX3_run_119 : decode cX3_run 119 = .ok (.iload 4, 2) := by decide +kernel
theorem dX3_run_121 : decode cX3_run 121 = .ok (.iload 7, 2) := by decide +kernel
theorem dX3_run_123 : decode cX3_run 123 = .ok (.ifCond .ne 7, 3) := by decide +kernel
theorem dX3_run_126 : decode cX3_run 126 = .ok (.iconst 1, 1) := by decide +kernel
theorem dX3_run_127 : decode cX3_run 127 = .ok (.goto 4, 3) := by decide +kernel
theorem dX3_run_130 : decode cX3_run 130 = .ok (.iconst 0, 1) := by decide +kernel
theorem dX3_run_131 : decode cX3_run 131 = .ok (.iastore, 1) := by decide +kernel
theorem dX3_run_132 : decode cX3_run 132 = .ok (.goto 318, 3) := by decide +kernel
theorem dX3_run_135 : decode cX3_run 135 = .ok (.iload 6, 2) := by decide +kernel
theorem dX3_run_137 : decode cX3_run 137 = .ok (.iconst 3, 1) := by decide +kernel
theorem dX3_run_138 : decode cX3_run 138 = .ok (.if_icmp .eq 9, 3) := by decide +kernel
theorem dX3_run_141 : decode cX3_run 141 = .ok (.iload 6, 2) := by decide +kernel
theorem dX3_run_143 : decode cX3_run 143 = .ok (.iconst 4, 1) := by decide +kernel
theorem dX3_run_144 : decode cX3_run 144 = .ok (.if_icmp .ne 59, 3) := by decide +kernel
theorem dX3_run_147 : decode cX3_run 147 = .ok (.iload 7, 2) := by decide +kernel
theorem dX3_run_149 : decode cX3_run 149 = .ok (.ifCond .eq 7, 3) := by decide +kernel
theorem dX3_run_152 : decode cX3_run 152 = .ok (.iconst 1, 1) := by decide +kernel
theorem dX3_run_153 : decode cX3_run 153 = .ok (.goto 4, 3) := by decide +kernel
theorem dX3_run_156 : decode cX3_run 156 = .ok (.iconst 0, 1) := by decide +kernel
theorem dX3_run_157 : decode cX3_run 157 = .ok (.iload 6, 2) := by decide +kernel
theorem dX3_run_159 : decode cX3_run 159 = .ok (.iconst 4, 1) := by decide +kernel
theorem dX3_run_160 : decode cX3_run 160 = .ok (.if_icmp .ne 7, 3) := by decide +kernel
theorem dX3_run_163 : decode cX3_run 163 = .ok (.iconst 1, 1) := by decide +kernel
theorem dX3_run_164 : decode cX3_run 164 = .ok (.goto 4, 3) := by decide +kernel
theorem dX3_run_167 : decode cX3_run 167 = .ok (.iconst 0, 1) := by decide +kernel
theorem dX3_run_168 : decode cX3_run 168 = .ok (.if_icmp .eq 9, 3) := by decide +kernel
theorem dX3_run_171 : decode cX3_run 171 = .ok (.iinc 4 (-1), 3) := by decide +kernel
theorem dX3_run_174 : decode cX3_run 174 = .ok (.goto 276, 3) := by decide +kernel
theorem dX3_run_177 : decode cX3_run 177 = .ok (.aload_n 0, 1) := by decide +kernel
theorem dX3_run_178 : decode cX3_run 178 = .ok (.getfield 15, 3) := by decide +kernel
theorem dX3_run_181 : decode cX3_run 181 = .ok (.iload 5, 2) := by decide +kernel
theorem dX3_run_183 : decode cX3_run 183 = .ok (.iaload, 1) := by decide +kernel
theorem dX3_run_184 : decode cX3_run 184 = .ok (.iload 5, 2) := by decide +kernel
theorem dX3_run_186 : decode cX3_run 186 = .ok (.if_icmp .le 264, 3) := by decide +kernel
theorem dX3_run_189 : decode cX3_run 189 = .ok (.aload_n 0, 1) := by decide +kernel
theorem dX3_run_190 : decode cX3_run 190 = .ok (.getfield 15, 3) := by decide +kernel
theorem dX3_run_193 : decode cX3_run 193 = .ok (.iload 5, 2) := by decide +kernel
theorem dX3_run_195 : decode cX3_run 195 = .ok (.iaload, 1) := by decide +kernel
theorem dX3_run_196 : decode cX3_run 196 = .ok (.iconst 1, 1) := by decide +kernel
theorem dX3_run_197 : decode cX3_run 197 = .ok (.isub, 1) := by decide +kernel
theorem dX3_run_198 : decode cX3_run 198 = .ok (.istore 5, 2) := by decide +kernel
theorem dX3_run_200 : decode cX3_run 200 = .ok (.goto 250, 3) := by decide +kernel
theorem dX3_run_203 : decode cX3_run 203 = .ok (.iload 4, 2) := by decide +kernel
theorem dX3_run_205 : decode cX3_run 205 = .ok (.iconst 1, 1) := by decide +kernel
theorem dX3_run_206 : decode cX3_run 206 = .ok (.if_icmp .lt 22, 3) := by decide +kernel
theorem dX3_run_209 : decode cX3_run 209 = .ok (.iload 7, 2) := by decide +kernel
theorem dX3_run_211 : decode cX3_run 211 = .ok (.ifCond .ne 19, 3) := by decide +kernel
theorem dX3_run_214 : decode cX3_run 214 = .ok (.iload 6, 2) := by decide +kernel
theorem dX3_run_216 : decode cX3_run 216 = .ok (.bipush 47, 2) := by decide +kernel
theorem dX3_run_218 : decode cX3_run 218 = .ok (.if_icmp .eq 10, 3) := by decide +kernel
theorem dX3_run_221 : decode cX3_run 221 = .ok (.iload 6, 2) := by decide +kernel
theorem dX3_run_223 : decode cX3_run 223 = .ok (.bipush 37, 2) := by decide +kernel
theorem dX3_run_225 : decode cX3_run 225 = .ok (.if_icmp .ne 5, 3) := by decide +kernel
theorem dX3_run_228 : decode cX3_run 228 = .ok (.iconst 0, 1) := by decide +kernel
theorem dX3_run_229 : decode cX3_run 229 = .ok (.ireturn, 1) := by decide +kernel
theorem dX3_run_230 : decode cX3_run 230 = .ok (.iinc 4 (-1), 3) := by decide +kernel
theorem dX3_run_233 : decode cX3_run 233 = .ok (.aload_n 0, 1) := by decide +kernel
theorem dX3_run_234 : decode cX3_run 234 = .ok (.getfield 30, 3) := by decide +kernel
theorem dX3_run_237 : decode cX3_run 237 = .ok (.iload 4, 2) := by decide +kernel
theorem dX3_run_239 : decode cX3_run 239 = .ok (.iaload, 1) := by decide +kernel
theorem dX3_run_240 : decode cX3_run 240 = .ok (.istore 8, 2) := by decide +kernel
theorem dX3_run_242 : decode cX3_run 242 = .ok (.iload 6, 2) := by decide +kernel
theorem dX3_run_244 : decode cX3_run 244 = .ok (.lookupswitch 187 #[(37, 128), (42, 98), (43, 68), (45, 83), (47, 113), (60, 143), (62, 165)], 68) := by decide +kernel
theorem dX3_run_312 : decode cX3_run 312 = .ok (.aload_n 0, 1) := by decide +kernel
theorem dX3_run_313 : decode cX3_run 313 = .ok (.getfield 30, 3) := by decide +kernel
theorem dX3_run_316 : decode cX3_run 316 = .ok (.iload 4, 2) := by decide +kernel
theorem dX3_run_318 : decode cX3_run 318 = .ok (.iload 8, 2) := by decide +kernel
theorem dX3_run_320 : decode cX3_run 320 = .ok (.iload 7, 2) := by decide +kernel
theorem dX3_run_322 : decode cX3_run 322 = .ok (.iadd, 1) := by decide +kernel
theorem dX3_run_323 : decode cX3_run 323 = .ok (.iastore, 1) := by decide +kernel
theorem dX3_run_324 : decode cX3_run 324 = .ok (.goto 126, 3) := by decide +kernel
theorem dX3_run_327 : decode cX3_run 327 = .ok (.aload_n 0, 1) := by decide +kernel
theorem dX3_run_328 : decode cX3_run 328 = .ok (.getfield 30, 3) := by decide +kernel
theorem dX3_run_331 : decode cX3_run 331 = .ok (.iload 4, 2) := by decide +kernel
theorem dX3_run_333 : decode cX3_run 333 = .ok (.iload 8, 2) := by decide +kernel
theorem dX3_run_335 : decode cX3_run 335 = .ok (.iload 7, 2) := by decide +kernel
theorem dX3_run_337 : decode cX3_run 337 = .ok (.isub, 1) := by decide +kernel
theorem dX3_run_338 : decode cX3_run 338 = .ok (.iastore, 1) := by decide +kernel
theorem dX3_run_339 : decode cX3_run 339 = .ok (.goto 111, 3) := by decide +kernel
theorem dX3_run_342 : decode cX3_run 342 = .ok (.aload_n 0, 1) := by decide +kernel
theorem dX3_run_343 : decode cX3_run 343 = .ok (.getfield 30, 3) := by decide +kernel
theorem dX3_run_346 : decode cX3_run 346 = .ok (.iload 4, 2) := by decide +kernel
theorem dX3_run_348 : decode cX3_run 348 = .ok (.iload 8, 2) := by decide +kernel
theorem dX3_run_350 : decode cX3_run 350 = .ok (.iload 7, 2) := by decide +kernel
theorem dX3_run_352 : decode cX3_run 352 = .ok (.imul, 1) := by decide +kernel
theorem dX3_run_353 : decode cX3_run 353 = .ok (.iastore, 1) := by decide +kernel
theorem dX3_run_354 : decode cX3_run 354 = .ok (.goto 96, 3) := by decide +kernel
theorem dX3_run_357 : decode cX3_run 357 = .ok (.aload_n 0, 1) := by decide +kernel
theorem dX3_run_358 : decode cX3_run 358 = .ok (.getfield 30, 3) := by decide +kernel
theorem dX3_run_361 : decode cX3_run 361 = .ok (.iload 4, 2) := by decide +kernel
theorem dX3_run_363 : decode cX3_run 363 = .ok (.iload 8, 2) := by decide +kernel
theorem dX3_run_365 : decode cX3_run 365 = .ok (.iload 7, 2) := by decide +kernel
theorem dX3_run_367 : decode cX3_run 367 = .ok (.idiv, 1) := by decide +kernel
theorem dX3_run_368 : decode cX3_run 368 = .ok (.iastore, 1) := by decide +kernel
theorem dX3_run_369 : decode cX3_run 369 = .ok (.goto 81, 3) := by decide +kernel
theorem dX3_run_372 : decode cX3_run 372 = .ok (.aload_n 0, 1) := by decide +kernel
theorem dX3_run_373 : decode cX3_run 373 = .ok (.getfield 30, 3) := by decide +kernel
theorem dX3_run_376 : decode cX3_run 376 = .ok (.iload 4, 2) := by decide +kernel
theorem dX3_run_378 : decode cX3_run 378 = .ok (.iload 8, 2) := by decide +kernel
theorem dX3_run_380 : decode cX3_run 380 = .ok (.iload 7, 2) := by decide +kernel
theorem dX3_run_382 : decode cX3_run 382 = .ok (.irem, 1) := by decide +kernel
theorem dX3_run_383 : decode cX3_run 383 = .ok (.iastore, 1) := by decide +kernel
theorem dX3_run_384 : decode cX3_run 384 = .ok (.goto 66, 3) := by decide +kernel
theorem dX3_run_387 : decode cX3_run 387 = .ok (.aload_n 0, 1) := by decide +kernel
theorem dX3_run_388 : decode cX3_run 388 = .ok (.getfield 30, 3) := by decide +kernel
theorem dX3_run_391 : decode cX3_run 391 = .ok (.iload 4, 2) := by decide +kernel
theorem dX3_run_393 : decode cX3_run 393 = .ok (.iload 8, 2) := by decide +kernel
theorem dX3_run_395 : decode cX3_run 395 = .ok (.iload 7, 2) := by decide +kernel
theorem dX3_run_397 : decode cX3_run 397 = .ok (.if_icmp .ge 7, 3) := by decide +kernel
theorem dX3_run_400 : decode cX3_run 400 = .ok (.iconst 1, 1) := by decide +kernel
theorem dX3_run_401 : decode cX3_run 401 = .ok (.goto 4, 3) := by decide +kernel
theorem dX3_run_404 : decode cX3_run 404 = .ok (.iconst 0, 1) := by decide +kernel
theorem dX3_run_405 : decode cX3_run 405 = .ok (.iastore, 1) := by decide +kernel
theorem dX3_run_406 : decode cX3_run 406 = .ok (.goto 44, 3) := by decide +kernel
theorem dX3_run_409 : decode cX3_run 409 = .ok (.aload_n 0, 1) := by decide +kernel
theorem dX3_run_410 : decode cX3_run 410 = .ok (.getfield 30, 3) := by decide +kernel
theorem dX3_run_413 : decode cX3_run 413 = .ok (.iload 4, 2) := by decide +kernel
theorem dX3_run_415 : decode cX3_run 415 = .ok (.iload 8, 2) := by decide +kernel
theorem dX3_run_417 : decode cX3_run 417 = .ok (.iload 7, 2) := by decide +kernel
theorem dX3_run_419 : decode cX3_run 419 = .ok (.if_icmp .le 7, 3) := by decide +kernel
theorem dX3_run_422 : decode cX3_run 422 = .ok (.iconst 1, 1) := by decide +kernel
theorem dX3_run_423 : decode cX3_run 423 = .ok (.goto 4, 3) := by decide +kernel
theorem dX3_run_426 : decode cX3_run 426 = .ok (.iconst 0, 1) := by decide +kernel
theorem dX3_run_427 : decode cX3_run 427 = .ok (.iastore, 1) := by decide +kernel
theorem dX3_run_428 : decode cX3_run 428 = .ok (.goto 22, 3) := by decide +kernel
theorem dX3_run_431 : decode cX3_run 431 = .ok (.aload_n 0, 1) := by decide +kernel
theorem dX3_run_432 : decode cX3_run 432 = .ok (.getfield 30, 3) := by decide +kernel
theorem dX3_run_435 : decode cX3_run 435 = .ok (.iload 4, 2) := by decide +kernel
theorem dX3_run_437 : decode cX3_run 437 = .ok (.iload 8, 2) := by decide +kernel
theorem dX3_run_439 : decode cX3_run 439 = .ok (.iload 7, 2) := by decide +kernel
theorem dX3_run_441 : decode cX3_run 441 = .ok (.if_icmp .ne 7, 3) := by decide +kernel
theorem dX3_run_444 : decode cX3_run 444 = .ok (.iconst 1, 1) := by decide +kernel
theorem dX3_run_445 : decode cX3_run 445 = .ok (.goto 4, 3) := by decide +kernel
theorem dX3_run_448 : decode cX3_run 448 = .ok (.iconst 0, 1) := by decide +kernel
theorem dX3_run_449 : decode cX3_run 449 = .ok (.iastore, 1) := by decide +kernel
theorem dX3_run_450 : decode cX3_run 450 = .ok (.iinc 5 1, 3) := by decide +kernel
theorem dX3_run_453 : decode cX3_run 453 = .ok (.goto (-447), 3) := by decide +kernel
theorem dX3_run_456 : decode cX3_run 456 = .ok (.iload 4, 2) := by decide +kernel
theorem dX3_run_458 : decode cX3_run 458 = .ok (.ifCond .lt 13, 3) := by decide +kernel
theorem dX3_run_461 : decode cX3_run 461 = .ok (.aload_n 0, 1) := by decide +kernel
theorem dX3_run_462 : decode cX3_run 462 = .ok (.getfield 30, 3) := by decide +kernel
theorem dX3_run_465 : decode cX3_run 465 = .ok (.iload 4, 2) := by decide +kernel
theorem dX3_run_467 : decode cX3_run 467 = .ok (.iaload, 1) := by decide +kernel
theorem dX3_run_468 : decode cX3_run 468 = .ok (.goto 4, 3) := by decide +kernel
theorem dX3_run_471 : decode cX3_run 471 = .ok (.iconst 0, 1) := by decide +kernel
theorem dX3_run_472 : decode cX3_run 472 = .ok (.ireturn, 1) := by decide +kernel
theorem dX4_init_0 : decode cX4_init 0 = .ok (.aload_n 0, 1) := by decide +kernel
theorem dX4_init_1 : decode cX4_init 1 = .ok (.invokespecial 3, 3) := by decide +kernel
theorem dX4_init_4 : decode cX4_init 4 = .ok (.aload_n 0, 1) := by decide +kernel
theorem dX4_init_5 : decode cX4_init 5 = .ok (.sipush 241, 3) := by decide +kernel
theorem dX4_init_8 : decode cX4_init 8 = .ok (.newarray .int, 2) := by decide +kernel
theorem dX4_init_10 : decode cX4_init 10 = .ok (.putfield 9, 3) := by decide +kernel
theorem dX4_init_13 : decode cX4_init 13 = .ok (.aload_n 0, 1) := by decide +kernel
theorem dX4_init_14 : decode cX4_init 14 = .ok (.iconst 0, 1) := by decide +kernel
theorem dX4_init_15 : decode cX4_init 15 = .ok (.putfield 15, 3) := by decide +kernel
theorem dX4_init_18 : decode cX4_init 18 = .ok (.aload_n 0, 1) := by decide +kernel
theorem dX4_init_19 : decode cX4_init 19 = .ok (.iconst 0, 1) := by decide +kernel
theorem dX4_init_20 : decode cX4_init 20 = .ok (.putfield 19, 3) := by decide +kernel
theorem dX4_init_23 : decode cX4_init 23 = .ok (.aload_n 0, 1) := by decide +kernel
theorem dX4_init_24 : decode cX4_init 24 = .ok (.iconst (-1), 1) := by decide +kernel
theorem dX4_init_25 : decode cX4_init 25 = .ok (.putfield 22, 3) := by decide +kernel
theorem dX4_init_28 : decode cX4_init 28 = .ok (.aload_n 0, 1) := by decide +kernel
theorem dX4_init_29 : decode cX4_init 29 = .ok (.aload_n 1, 1) := by decide +kernel
theorem dX4_init_30 : decode cX4_init 30 = .ok (.putfield 25, 3) := by decide +kernel
theorem dX4_init_33 : decode cX4_init 33 = .ok (.aload_n 0, 1) := by decide +kernel
theorem dX4_init_34 : decode cX4_init 34 = .ok (.aload_n 2, 1) := by decide +kernel
theorem dX4_init_35 : decode cX4_init 35 = .ok (.putfield 29, 3) := by decide +kernel
theorem dX4_init_38 : decode cX4_init 38 = .ok (.return_, 1) := by decide +kernel
theorem dX4_read_0 : decode cX4_read 0 = .ok (.aload_n 0, 1) := by decide +kernel
theorem dX4_read_1 : decode cX4_read 1 = .ok (.aload_n 2, 1) := by decide +kernel
theorem dX4_read_2 : decode cX4_read 2 = .ok (.putfield 29, 3) := by decide +kernel
theorem dX4_read_5 : decode cX4_read 5 = .ok (.aload_n 0, 1) := by decide +kernel
theorem dX4_read_6 : decode cX4_read 6 = .ok (.getfield 29, 3) := by decide +kernel
theorem dX4_read_9 : decode cX4_read 9 = .ok (.invokevirtual 33, 3) := by decide +kernel
theorem dX4_read_12 : decode cX4_read 12 = .ok (.aload_n 0, 1) := by decide +kernel
theorem dX4_read_13 : decode cX4_read 13 = .ok (.iconst 0, 1) := by decide +kernel
theorem dX4_read_14 : decode cX4_read 14 = .ok (.iload_n 1, 1) := by decide +kernel
theorem dX4_read_15 : decode cX4_read 15 = .ok (.aload_n 0, 1) := by decide +kernel
theorem dX4_read_16 : decode cX4_read 16 = .ok (.getfield 9, 3) := by decide +kernel
theorem dX4_read_19 : decode cX4_read 19 = .ok (.arraylength, 1) := by decide +kernel
theorem dX4_read_20 : decode cX4_read 20 = .ok (.iconst 1, 1) := by decide +kernel
theorem dX4_read_21 : decode cX4_read 21 = .ok (.isub, 1) := by decide +kernel
theorem dX4_read_22 : decode cX4_read 22 = .ok (.invokestatic 38, 3) := by decide +kernel
theorem dX4_read_25 : decode cX4_read 25 = .ok (.invokestatic 44, 3) := by decide +kernel
theorem dX4_read_28 : decode cX4_read 28 = .ok (.putfield 15, 3) := by decide +kernel
theorem dX4_read_31 : decode cX4_read 31 = .ok (.iconst 0, 1) := by decide +kernel
theorem dX4_read_32 : decode cX4_read 32 = .ok (.istore_n 3, 1) := by decide +kernel
theorem dX4_read_33 : decode cX4_read 33 = .ok (.iload_n 3, 1) := by decide +kernel
theorem dX4_read_34 : decode cX4_read 34 = .ok (.aload_n 0, 1) := by decide +kernel
theorem dX4_read_35 : decode cX4_read 35 = .ok (.getfield 15, 3) := by decide +kernel
theorem dX4_read_38 : decode cX4_read 38 = .ok (.if_icmp .ge 23, 3) := by decide +kernel
theorem dX4_read_41 : decode cX4_read 41 = .ok (.aload_n 0, 1) := by decide +kernel
theorem dX4_read_42 : decode cX4_read 42 = .ok (.getfield 9, 3) := by decide +kernel
theorem dX4_read_45 : decode cX4_read 45 = .ok (.iload_n 3, 1) := by decide +kernel
theorem dX4_read_46 : decode cX4_read 46 = .ok (.aload_n 0, 1) := by decide +kernel
theorem dX4_read_47 : decode cX4_read 47 = .ok (.getfield 25, 3) := by decide +kernel
theorem dX4_read_50 : decode cX4_read 50 = .ok (.iload_n 3, 1) := by decide +kernel
theorem dX4_read_51 : decode cX4_read 51 = .ok (.invokevirtual 47, 3) := by decide +kernel
theorem dX4_read_54 : decode cX4_read 54 = .ok (.iastore, 1) := by decide +kernel
theorem dX4_read_55 : decode cX4_read 55 = .ok (.iinc 3 1, 3) := by decide +kernel
theorem dX4_read_58 : decode cX4_read 58 = .ok (.goto (-25), 3) := by decide +kernel
theorem dX4_read_61 : decode cX4_read 61 = .ok (.aload_n 0, 1) := by decide +kernel
theorem dX4_read_62 : decode cX4_read 62 = .ok (.getfield 9, 3) := by decide +kernel
theorem dX4_read_65 : decode cX4_read 65 = .ok (.aload_n 0, 1) := by decide +kernel
theorem dX4_read_66 : decode cX4_read 66 = .ok (.getfield 15, 3) := by decide +kernel
theorem dX4_read_69 : decode cX4_read 69 = .ok (.iconst (-1), 1) := by decide +kernel
theorem dX4_read_70 : decode cX4_read 70 = .ok (.iastore, 1) := by decide +kernel
theorem dX4_read_71 : decode cX4_read 71 = .ok (.aload_n 0, 1) := by decide +kernel
theorem dX4_read_72 : decode cX4_read 72 = .ok (.iconst 0, 1) := by decide +kernel
theorem dX4_read_73 : decode cX4_read 73 = .ok (.putfield 19, 3) := by decide +kernel
theorem dX4_read_76 : decode cX4_read 76 = .ok (.aload_n 0, 1) := by decide +kernel
theorem dX4_read_77 : decode cX4_read 77 = .ok (.aload_n 0, 1) := by decide +kernel
theorem dX4_read_78 : decode cX4_read 78 = .ok (.getfield 9, 3) := by decide +kernel
theorem dX4_read_81 : decode cX4_read 81 = .ok (.iconst 0, 1) := by decide +kernel
theorem dX4_read_82 : decode cX4_read 82 = .ok (.iaload, 1) := by decide +kernel
theorem dX4_read_83 : decode cX4_read 83 = .ok (.putfield 22, 3) := by decide +kernel
theorem dX4_read_86 : decode cX4_read 86 = .ok (.iconst 0, 1) := by decide +kernel
theorem dX4_read_87 : decode cX4_read 87 = .ok (.istore_n 3, 1) := by decide +kernel
theorem dX4_read_88 : decode cX4_read 88 = .ok (.iload_n 3, 1) := by decide +kernel
theorem dX4_read_89 : decode cX4_read 89 = .ok (.bipush 16, 2) := by decide +kernel
theorem dX4_read_91 : decode cX4_read 91 = .ok (.if_icmp .gt 50, 3) := by decide +kernel
theorem dX4_read_94 : decode cX4_read 94 = .ok (.aload_n 0, 1) := by decide +kernel
theorem dX4_read_95 : decode cX4_read 95 = .ok (.invokevirtual 53, 3) := by decide +kernel
theorem dX4_read_98 : decode cX4_read 98 = .ok (.istore 4, 2) := by decide +kernel
theorem dX4_read_100 : decode cX4_read 100 = .ok (.iload 4, 2) := by decide +kernel
theorem dX4_read_102 : decode cX4_read 102 = .ok (.ifCond .ne 14, 3) := by decide +kernel
theorem dX4_read_105 : decode cX4_read 105 = .ok (.aload_n 0, 1) := by decide +kernel
theorem dX4_read_106 : decode cX4_read 106 = .ok (.getfield 19, 3) := by decide +kernel
theorem dX4_read_109 : decode cX4_read 109 = .ok (.aload_n 0, 1) := by decide +kernel
theorem dX4_read_110 : decode cX4_read 110 = .ok (.getfield 15, 3) := by decide +kernel
theorem dX4_read_113 : decode cX4_read 113 = .ok (.if_icmp .ne 6, 3) := by decide +kernel
theorem dX4_read_116 : decode cX4_read 116 = .ok (.iload 4, 2) := by decide +kernel
theorem dX4_read_118 : decode cX4_read 118 = .ok (.ireturn, 1) := by decide +kernel
theorem dX4_read_119 : decode cX4_read 119 = .ok (.aload_n 0, 1) := by decide +kernel
theorem dX4_read_120 : decode cX4_read 120 = .ok (.bipush 59, 2) := by decide +kernel
theorem dX4_read_122 : decode cX4_read 122 = .ok (.invokevirtual 57, 3) := by decide +kernel
theorem dX4_read_125 : decode cX4_read 125 = .ok (.istore 4, 2) := by decide +kernel
theorem dX4_read_127 : decode cX4_read 127 = .ok (.iload 4, 2) := by decide +kernel
theorem dX4_read_129 : decode cX4_read 129 = .ok (.ifCond .eq 6, 3) := by decide +kernel
theorem dX4_read_132 : decode cX4_read 132 = .ok (.iload 4, 2) := by decide +kernel
theorem dX4_read_134 : decode cX4_read 134 = .ok (.ireturn, 1) := by decide +kernel
theorem dX4_read_135 : decode cX4_read 135 = .ok (.iinc 3 1, 3) := by decide +kernel
theorem dX4_read_138 : decode cX4_read 138 = .ok (.goto (-50), 3) := by decide +kernel
theorem dX4_read_141 : decode cX4_read 141 = .ok (.iconst 4, 1) := by decide +kernel
theorem dX4_read_142 : decode cX4_read 142 = .ok (.aload_n 0, 1) := by decide +kernel
theorem dX4_read_143 : decode cX4_read 143 = .ok (.getfield 19, 3) := by decide +kernel
theorem dX4_read_146 : decode cX4_read 146 = .ok (.invokestatic 60, 3) := by decide +kernel
theorem dX4_read_149 : decode cX4_read 149 = .ok (.ireturn, 1) := by decide +kernel
theorem dX4_advance_0 : decode cX4_advance 0 = .ok (.aload_n 0, 1) := by decide +kernel
theorem dX4_advance_1 : decode cX4_advance 1 = .ok (.aload_n 0, 1) := by decide +kernel
theorem dX4_advance_2 : decode cX4_advance 2 = .ok (.getfield 19, 3) := by decide +kernel
theorem dX4_advance_5 : decode cX4_advance 5 = .ok (.iconst 1, 1) := by decide +kernel
theorem dX4_advance_6 : decode cX4_advance 6 = .ok (.iadd, 1) := by decide +kernel
theorem dX4_advance_7 : decode cX4_advance 7 = .ok (.aload_n 0, 1) := by decide +kernel
theorem dX4_advance_8 : decode cX4_advance 8 = .ok (.getfield 15, 3) := by decide +kernel
theorem dX4_advance_11 : decode cX4_advance 11 = .ok (.invokestatic 38, 3) := by decide +kernel
theorem dX4_advance_14 : decode cX4_advance 14 = .ok (.putfield 19, 3) := by decide +kernel
theorem dX4_advance_17 : decode cX4_advance 17 = .ok (.aload_n 0, 1) := by decide +kernel
theorem dX4_advance_18 : decode cX4_advance 18 = .ok (.aload_n 0, 1) := by decide +kernel
theorem dX4_advance_19 : decode cX4_advance 19 = .ok (.getfield 9, 3) := by decide +kernel
theorem dX4_advance_22 : decode cX4_advance 22 = .ok (.aload_n 0, 1) := by decide +kernel
theorem dX4_advance_23 : decode cX4_advance 23 = .ok (.getfield 19, 3) := by decide +kernel
theorem dX4_advance_26 : decode cX4_advance 26 = .ok (.iaload, 1) := by decide +kernel
theorem dX4_advance_27 : decode cX4_advance 27 = .ok (.putfield 22, 3) := by decide +kernel
theorem dX4_advance_30 : decode cX4_advance 30 = .ok (.return_, 1) := by decide +kernel
theorem dX4_isOneOf_0 : decode cX4_isOneOf 0 = .ok (.aload_n 0, 1) := by decide +kernel
theorem dX4_isOneOf_1 : decode cX4_isOneOf 1 = .ok (.getfield 22, 3) := by decide +kernel
theorem dX4_isOneOf_4 : decode cX4_isOneOf 4 = .ok (.ifCond .lt 19, 3) := by decide +kernel
theorem dX4_isOneOf_7 : decode cX4_isOneOf 7 = .ok (.aload_n 1, 1) := by decide +kernel
theorem dX4_isOneOf_8 : decode cX4_isOneOf 8 = .ok (.aload_n 0, 1) := by decide +kernel
theorem dX4_isOneOf_9 : decode cX4_isOneOf 9 = .ok (.getfield 22, 3) := by decide +kernel
theorem dX4_isOneOf_12 : decode cX4_isOneOf 12 = .ok (.i2c, 1) := by decide +kernel
theorem dX4_isOneOf_13 : decode cX4_isOneOf 13 = .ok (.invokevirtual 63, 3) := by decide +kernel
theorem dX4_isOneOf_16 : decode cX4_isOneOf 16 = .ok (.ifCond .lt 7, 3) := by decide +kernel
theorem dX4_isOneOf_19 : decode cX4_isOneOf 19 = .ok (.iconst 1, 1) := by decide +kernel
theorem dX4_isOneOf_20 : decode cX4_isOneOf 20 = .ok (.goto 4, 3) := by decide +kernel
theorem dX4_isOneOf_23 : decode cX4_isOneOf 23 = .ok (.iconst 0, 1) := by decide +kernel
theorem dX4_isOneOf_24 : decode cX4_isOneOf 24 = .ok (.ireturn, 1) := by decide +kernel
theorem dX4_sign_0 : decode cX4_sign 0 = .ok (.aload_n 0, 1) := by decide +kernel
theorem dX4_sign_1 : decode cX4_sign 1 = .ok (.getfield 22, 3) := by decide +kernel
theorem dX4_sign_4 : decode cX4_sign 4 = .ok (.iload_n 1, 1) := by decide +kernel
theorem dX4_sign_5 : decode cX4_sign 5 = .ok (.if_icmp .eq 12, 3) := by decide +kernel
theorem dX4_sign_8 : decode cX4_sign 8 = .ok (.iconst 1, 1) := by decide +kernel
theorem dX4_sign_9 : decode cX4_sign 9 = .ok (.aload_n 0, 1) := by decide +kernel
theorem dX4_sign_10 : decode cX4_sign 10 = .ok (.getfield 19, 3) := by decide +kernel
theorem dX4_sign_13 : decode cX4_sign 13 = .ok (.invokestatic 60, 3) := by decide +kernel
theorem dX4_sign_16 : decode cX4_sign 16 = .ok (.ireturn, 1) := by decide +kernel
theorem dX4_sign_17 : decode cX4_sign 17 = .ok (.aload_n 0, 1) := by decide +kernel
theorem dX4_sign_18 : decode cX4_sign 18 = .ok (.invokevirtual 68, 3) := by decide +kernel
theorem dX4_sign_21 : decode cX4_sign 21 = .ok (.iconst 0, 1) := by decide +kernel
theorem dX4_sign_22 : decode cX4_sign 22 = .ok (.ireturn, 1) := by decide +kernel
theorem dX4_clause_0 : decode cX4_clause 0 = .ok (.aload_n 0, 1) := by decide +kernel
theorem dX4_clause_1 : decode cX4_clause 1 = .ok (.ldc 71, 2) := by decide +kernel
theorem dX4_clause_3 : decode cX4_clause 3 = .ok (.invokevirtual 73, 3) := by decide +kernel
theorem dX4_clause_6 : decode cX4_clause 6 = .ok (.ifCond .ne 12, 3) := by decide +kernel
theorem dX4_clause_9 : decode cX4_clause 9 = .ok (.iconst 1, 1) := by decide +kernel
theorem dX4_clause_10 : decode cX4_clause 10 = .ok (.aload_n 0, 1) := by decide +kernel
theorem dX4_clause_11 : decode cX4_clause 11 = .ok (.getfield 19, 3) := by decide +kernel
theorem dX4_clause_14 : decode cX4_clause 14 = .ok (.invokestatic 60, 3) := by decide +kernel
theorem dX4_clause_17 : decode cX4_clause 17 = .ok (.ireturn, 1) := by decide +kernel
theorem dX4_clause_18 : decode cX4_clause 18 = .ok (.aload_n 0, 1) := by decide +kernel
theorem dX4_clause_19 : decode cX4_clause 19 = .ok (.getfield 29, 3) := by decide +kernel
theorem dX4_clause_22 : decode cX4_clause 22 = .ok (.getfield 77, 3) := by decide +kernel
theorem dX4_clause_25 : decode cX4_clause 25 = .ok (.bipush 16, 2) := by decide +kernel
theorem dX4_clause_27 : decode cX4_clause 27 = .ok (.if_icmp .lt 12, 3) := by decide +kernel
theorem dX4_clause_30 : decode cX4_clause 30 = .ok (.iconst 4, 1) := by decide +kernel
theorem dX4_clause_31 : decode cX4_clause 31 = .ok (.aload_n 0, 1) := by decide +kernel
theorem dX4_clause_32 : decode cX4_clause 32 = .ok (.getfield 19, 3) := by decide +kernel
theorem dX4_clause_35 : decode cX4_clause 35 = .ok (.invokestatic 60, 3) := by decide +kernel
theorem dX4_clause_38 : decode cX4_clause 38 = .ok (.ireturn, 1) := by decide +kernel
theorem dX4_clause_39 : decode cX4_clause 39 = .ok (.aload_n 0, 1) := by decide +kernel
theorem dX4_clause_40 : decode cX4_clause 40 = .ok (.getfield 29, 3) := by decide +kernel
theorem dX4_clause_43 : decode cX4_clause 43 = .ok (.getfield 77, 3) := by decide +kernel
theorem dX4_clause_46 : decode cX4_clause 46 = .ok (.istore_n 1, 1) := by decide +kernel
theorem dX4_clause_47 : decode cX4_clause 47 = .ok (.aload_n 0, 1) := by decide +kernel
theorem dX4_clause_48 : decode cX4_clause 48 = .ok (.getfield 29, 3) := by decide +kernel
theorem dX4_clause_51 : decode cX4_clause 51 = .ok (.getfield 80, 3) := by decide +kernel
theorem dX4_clause_54 : decode cX4_clause 54 = .ok (.iload_n 1, 1) := by decide +kernel
theorem dX4_clause_55 : decode cX4_clause 55 = .ok (.aload_n 0, 1) := by decide +kernel
theorem dX4_clause_56 : decode cX4_clause 56 = .ok (.getfield 22, 3) := by decide +kernel
theorem dX4_clause_59 : decode cX4_clause 59 = .ok (.iastore, 1) := by decide +kernel
theorem dX4_clause_60 : decode cX4_clause 60 = .ok (.aload_n 0, 1) := by decide +kernel
theorem dX4_clause_61 : decode cX4_clause 61 = .ok (.getfield 29, 3) := by decide +kernel
theorem dX4_clause_64 : decode cX4_clause 64 = .ok (.getfield 83, 3) := by decide +kernel
theorem dX4_clause_67 : decode cX4_clause 67 = .ok (.iload_n 1, 1) := by decide +kernel
theorem dX4_clause_68 : decode cX4_clause 68 = .ok (.aload_n 0, 1) := by decide +kernel
theorem dX4_clause_69 : decode cX4_clause 69 = .ok (.getfield 29, 3) := by decide +kernel
theorem dX4_clause_72 : decode cX4_clause 72 = .ok (.getfield 86, 3) := by decide +kernel
theorem dX4_clause_75 : decode cX4_clause 75 = .ok (.iastore, 1) := by decide +kernel
theorem dX4_clause_76 : decode cX4_clause 76 = .ok (.aload_n 0, 1) := by decide +kernel
theorem dX4_clause_77 : decode cX4_clause 77 = .ok (.invokevirtual 68, 3) := by decide +kernel
theorem dX4_clause_80 : decode cX4_clause 80 = .ok (.iconst 0, 1) := by decide +kernel
theorem dX4_clause_81 : decode cX4_clause 81 = .ok (.istore_n 2, 1) := by decide +kernel
theorem dX4_clause_82 : decode cX4_clause 82 = .ok (.aload_n 0, 1) := by decide +kernel
theorem dX4_clause_83 : decode cX4_clause 83 = .ok (.getfield 29, 3) := by decide +kernel
theorem dX4_clause_86 : decode cX4_clause 86 = .ok (.getfield 80, 3) := by decide +kernel
theorem dX4_clause_89 : decode cX4_clause 89 = .ok (.iload_n 1, 1) := by decide +kernel
theorem dX4_clause_90 : decode cX4_clause 90 = .ok (.iaload, 1) := by decide +kernel
theorem dX4_clause_91 : decode cX4_clause 91 = .ok (.bipush 101, 2) := by decide +kernel
theorem dX4_clause_93 : decode cX4_clause 93 = .ok (.if_icmp .ne 15, 3) := by decide +kernel
theorem dX4_clause_96 : decode cX4_clause 96 = .ok (.aload_n 0, 1) := by decide +kernel
theorem dX4_clause_97 : decode cX4_clause 97 = .ok (.getfield 29, 3) := by decide +kernel
theorem dX4_clause_100 : decode cX4_clause 100 = .ok (.iconst 0, 1) := by decide +kernel
theorem dX4_clause_101 : decode cX4_clause 101 = .ok (.iconst 1, 1) := by decide +kernel
theorem dX4_clause_102 : decode cX4_clause 102 = .ok (.invokevirtual 89, 3) := by decide +kernel
theorem dX4_clause_105 : decode cX4_clause 105 = .ok (.goto 9, 3) := by decide +kernel
theorem dX4_clause_108 : decode cX4_clause 108 = .ok (.aload_n 0, 1) := by decide +kernel
theorem dX4_clause_109 : decode cX4_clause 109 = .ok (.iconst 0, 1) := by decide +kernel
theorem dX4_clause_110 : decode cX4_clause 110 = .ok (.invokevirtual 93, 3) := by decide +kernel
theorem dX4_clause_113 : decode cX4_clause 113 = .ok (.istore_n 2, 1) := by decide +kernel
theorem dX4_clause_114 : decode cX4_clause 114 = .ok (.iload_n 2, 1) := by decide +kernel
theorem dX4_clause_115 : decode cX4_clause 115 = .ok (.ifCond .eq 7, 3) := by decide +kernel
theorem dX4_clause_118 : decode cX4_clause 118 = .ok (.iload_n 2, 1) := by decide +kernel
theorem dX4_clause_119 : decode cX4_clause 119 = .ok (.goto 9, 3) := by decide +kernel
theorem dX4_clause_122 : decode cX4_clause 122 = .ok (.aload_n 0, 1) := by decide +kernel
theorem dX4_clause_123 : decode cX4_clause 123 = .ok (.bipush 40, 2) := by decide +kernel
theorem dX4_clause_125 : decode cX4_clause 125 = .ok (.invokevirtual 57, 3) := by decide +kernel
theorem dX4_clause_128 : decode cX4_clause 128 = .ok (.istore_n 2, 1) := by decide +kernel
theorem dX4_clause_129 : decode cX4_clause 129 = .ok (.aload_n 0, 1) := by decide +kernel
theorem dX4_clause_130 : decode cX4_clause 130 = .ok (.getfield 29, 3) := by decide +kernel
theorem dX4_clause_133 : decode cX4_clause 133 = .ok (.getfield 96, 3) := by decide +kernel
theorem dX4_clause_136 : decode cX4_clause 136 = .ok (.iload_n 1, 1) := by decide +kernel
theorem dX4_clause_137 : decode cX4_clause 137 = .ok (.aload_n 0, 1) := by decide +kernel
theorem dX4_clause_138 : decode cX4_clause 138 = .ok (.getfield 29, 3) := by decide +kernel
theorem dX4_clause_141 : decode cX4_clause 141 = .ok (.getfield 86, 3) := by decide +kernel
theorem dX4_clause_144 : decode cX4_clause 144 = .ok (.iastore, 1) := by decide +kernel
theorem dX4_clause_145 : decode cX4_clause 145 = .ok (.iload_n 2, 1) := by decide +kernel
theorem dX4_clause_146 : decode cX4_clause 146 = .ok (.ifCond .eq 7, 3) := by decide +kernel
theorem dX4_clause_149 : decode cX4_clause 149 = .ok (.iload_n 2, 1) := by decide +kernel
theorem dX4_clause_150 : decode cX4_clause 150 = .ok (.goto 8, 3) := by decide +kernel
theorem dX4_clause_153 : decode cX4_clause 153 = .ok (.aload_n 0, 1) := by decide +kernel
theorem dX4_clause_154 : decode cX4_clause 154 = .ok (.iconst 1, 1) := by decide +kernel
theorem dX4_clause_155 : decode cX4_clause 155 = .ok (.invokevirtual 99, 3) := by decide +kernel
theorem dX4_clause_158 : decode cX4_clause 158 = .ok (.istore_n 2, 1) := by decide +kernel
theorem dX4_clause_159 : decode cX4_clause 159 = .ok (.aload_n 0, 1) := by decide +kernel
theorem dX4_clause_160 : decode cX4_clause 160 = .ok (.getfield 29, 3) := by decide +kernel
theorem dX4_clause_163 : decode cX4_clause 163 = .ok (.getfield 102, 3) := by decide +kernel
theorem dX4_clause_166 : decode cX4_clause 166 = .ok (.iload_n 1, 1) := by decide +kernel
theorem dX4_clause_167 : decode cX4_clause 167 = .ok (.aload_n 0, 1) := by decide +kernel
theorem dX4_clause_168 : decode cX4_clause 168 = .ok (.getfield 29, 3) := by decide +kernel
theorem dX4_clause_171 : decode cX4_clause 171 = .ok (.getfield 86, 3) := by decide +kernel
theorem dX4_clause_174 : decode cX4_clause 174 = .ok (.iastore, 1) := by decide +kernel
theorem dX4_clause_175 : decode cX4_clause 175 = .ok (.aload_n 0, 1) := by decide +kernel
theorem dX4_clause_176 : decode cX4_clause 176 = .ok (.getfield 29, 3) := by decide +kernel
theorem dX4_clause_179 : decode cX4_clause 179 = .ok (.dup, 1) := by decide +kernel
theorem dX4_clause_180 : decode cX4_clause 180 = .ok (.getfield 77, 3) := by decide +kernel
theorem dX4_clause_183 : decode cX4_clause 183 = .ok (.iconst 1, 1) := by decide +kernel
theorem dX4_clause_184 : decode cX4_clause 184 = .ok (.iadd, 1) := by decide +kernel
theorem dX4_clause_185 : decode cX4_clause 185 = .ok (.putfield 77, 3) := by decide +kernel
theorem dX4_clause_188 : decode cX4_clause 188 = .ok (.iload_n 2, 1) := by decide +kernel
theorem dX4_clause_189 : decode cX4_clause 189 = .ok (.ifCond .eq 7, 3) := by decide +kernel
theorem dX4_clause_192 : decode cX4_clause 192 = .ok (.iload_n 2, 1) := by decide +kernel
theorem dX4_clause_193 : decode cX4_clause 193 = .ok (.goto 9, 3) := by decide +kernel
theorem dX4_clause_196 : decode cX4_clause 196 = .ok (.aload_n 0, 1) := by decide +kernel
theorem dX4_clause_197 : decode cX4_clause 197 = .ok (.bipush 41, 2) := by decide +kernel
theorem dX4_clause_199 : decode cX4_clause 199 = .ok (.invokevirtual 57, 3) := by decide +kernel
theorem dX4_clause_202 : decode cX4_clause 202 = .ok (.ireturn, 1) := by decide +kernel
theorem dX4_land_0 : decode cX4_land 0 = .ok (.iload_n 1, 1) := by decide +kernel
theorem dX4_land_1 : decode cX4_land 1 = .ok (.istore_n 3, 1) := by decide +kernel
theorem dX4_land_2 : decode cX4_land 2 = .ok (.iload_n 3, 1) := by decide +kernel
theorem dX4_land_3 : decode cX4_land 3 = .ok (.aload_n 0, 1) := by decide +kernel
theorem dX4_land_4 : decode cX4_land 4 = .ok (.getfield 29, 3) := by decide +kernel
theorem dX4_land_7 : decode cX4_land 7 = .ok (.getfield 86, 3) := by decide +kernel
theorem dX4_land_10 : decode cX4_land 10 = .ok (.if_icmp .ge 50, 3) := by decide +kernel
theorem dX4_land_13 : decode cX4_land 13 = .ok (.aload_n 0, 1) := by decide +kernel
theorem dX4_land_14 : decode cX4_land 14 = .ok (.getfield 29, 3) := by decide +kernel
theorem dX4_land_17 : decode cX4_land 17 = .ok (.getfield 105, 3) := by decide +kernel
theorem dX4_land_20 : decode cX4_land 20 = .ok (.iload_n 3, 1) := by decide +kernel
theorem dX4_land_21 : decode cX4_land 21 = .ok (.iaload, 1) := by decide +kernel
theorem dX4_land_22 : decode cX4_land 22 = .ok (.iload_n 2, 1) := by decide +kernel
theorem dX4_land_23 : decode cX4_land 23 = .ok (.if_icmp .ne 31, 3) := by decide +kernel
theorem dX4_land_26 : decode cX4_land 26 = .ok (.aload_n 0, 1) := by decide +kernel
theorem dX4_land_27 : decode cX4_land 27 = .ok (.getfield 29, 3) := by decide +kernel
