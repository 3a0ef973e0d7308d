theorem dX5_runOut_34 : decode cX5_runOut 34 = .ok (.aload_n 1, 1) := by decide +kernel
theorem dX5_runOut_35 : decode cX5_runOut 35 = .ok (.getfield 79, 3) := by decide +kernel
theorem dX5_runOut_38 : decode cX5_runOut 38 = .ok (.putfield 27, 3) := by decide +kernel
theorem dX5_runOut_41 : decode cX5_runOut 41 = .ok (.goto 8, 3) := by decide +kernel
theorem dX5_runOut_44 : decode cX5_runOut 44 = .ok (.aload_n 0, 1) := by decide +kernel
theorem dX5_runOut_45 : decode cX5_runOut 45 = .ok (.iconst 1, 1) := by decide +kernel
theorem dX5_runOut_46 : decode cX5_runOut 46 = .ok (.putfield 54, 3) := by decide +kernel
theorem dX5_runOut_49 : decode cX5_runOut 49 = .ok (.return_, 1) := by decide +kernel
theorem dX5_gains_0 : decode cX5_gains 0 = .ok (.aload_n 0, 1) := by decide +kernel
theorem dX5_gains_1 : decode cX5_gains 1 = .ok (.getfield 54, 3) := by decide +kernel
theorem dX5_gains_4 : decode cX5_gains 4 = .ok (.ifCond .eq 5, 3) := by decide +kernel
theorem dX5_gains_7 : decode cX5_gains 7 = .ok (.iconst 0, 1) := by decide +kernel
theorem dX5_gains_8 : decode cX5_gains 8 = .ok (.ireturn, 1) := by decide +kernel
theorem dX5_gains_9 : decode cX5_gains 9 = .ok (.aload_n 0, 1) := by decide +kernel
theorem dX5_gains_10 : decode cX5_gains 10 = .ok (.getfield 44, 3) := by decide +kernel
theorem dX5_gains_13 : decode cX5_gains 13 = .ok (.ifCond .eq 13, 3) := by decide +kernel
theorem dX5_gains_16 : decode cX5_gains 16 = .ok (.aload_n 1, 1) := by decide +kernel
theorem dX5_gains_17 : decode cX5_gains 17 = .ok (.getfield 79, 3) := by decide +kernel
theorem dX5_gains_20 : decode cX5_gains 20 = .ok (.aload_n 0, 1) := by decide +kernel
theorem dX5_gains_21 : decode cX5_gains 21 = .ok (.getfield 27, 3) := by decide +kernel
theorem dX5_gains_24 : decode cX5_gains 24 = .ok (.isub, 1) := by decide +kernel
theorem dX5_gains_25 : decode cX5_gains 25 = .ok (.ireturn, 1) := by decide +kernel
theorem dX5_gains_26 : decode cX5_gains 26 = .ok (.aload_n 1, 1) := by decide +kernel
theorem dX5_gains_27 : decode cX5_gains 27 = .ok (.aload_n 0, 1) := by decide +kernel
theorem dX5_gains_28 : decode cX5_gains 28 = .ok (.getfield 31, 3) := by decide +kernel
theorem dX5_gains_31 : decode cX5_gains 31 = .ok (.iconst 2, 1) := by decide +kernel
theorem dX5_gains_32 : decode cX5_gains 32 = .ok (.invokevirtual 21, 3) := by decide +kernel
theorem dX5_gains_35 : decode cX5_gains 35 = .ok (.aload_n 0, 1) := by decide +kernel
theorem dX5_gains_36 : decode cX5_gains 36 = .ok (.getfield 51, 3) := by decide +kernel
theorem dX5_gains_39 : decode cX5_gains 39 = .ok (.aload_n 1, 1) := by decide +kernel
theorem dX5_gains_40 : decode cX5_gains 40 = .ok (.aload_n 0, 1) := by decide +kernel
theorem dX5_gains_41 : decode cX5_gains 41 = .ok (.getfield 31, 3) := by decide +kernel
theorem dX5_gains_44 : decode cX5_gains 44 = .ok (.iconst 4, 1) := by decide +kernel
theorem dX5_gains_45 : decode cX5_gains 45 = .ok (.invokevirtual 21, 3) := by decide +kernel
theorem dX5_gains_48 : decode cX5_gains 48 = .ok (.invokestatic 86, 3) := by decide +kernel
theorem dX5_gains_51 : decode cX5_gains 51 = .ok (.iadd, 1) := by decide +kernel
theorem dX5_gains_52 : decode cX5_gains 52 = .ok (.ireturn, 1) := by decide +kernel
theorem dX5_finishMove_0 : decode cX5_finishMove 0 = .ok (.aload_n 0, 1) := by decide +kernel
theorem dX5_finishMove_1 : decode cX5_finishMove 1 = .ok (.aload_n 1, 1) := by decide +kernel
theorem dX5_finishMove_2 : decode cX5_finishMove 2 = .ok (.invokevirtual 101, 3) := by decide +kernel
theorem dX5_finishMove_5 : decode cX5_finishMove 5 = .ok (.istore_n 2, 1) := by decide +kernel
theorem dX5_finishMove_6 : decode cX5_finishMove 6 = .ok (.aload_n 0, 1) := by decide +kernel
theorem dX5_finishMove_7 : decode cX5_finishMove 7 = .ok (.dup, 1) := by decide +kernel
theorem dX5_finishMove_8 : decode cX5_finishMove 8 = .ok (.getfield 27, 3) := by decide +kernel
theorem dX5_finishMove_11 : decode cX5_finishMove 11 = .ok (.iload_n 2, 1) := by decide +kernel
theorem dX5_finishMove_12 : decode cX5_finishMove 12 = .ok (.iadd, 1) := by decide +kernel
theorem dX5_finishMove_13 : decode cX5_finishMove 13 = .ok (.putfield 27, 3) := by decide +kernel
theorem dX5_finishMove_16 : decode cX5_finishMove 16 = .ok (.aload_n 0, 1) := by decide +kernel
theorem dX5_finishMove_17 : decode cX5_finishMove 17 = .ok (.dup, 1) := by decide +kernel
theorem dX5_finishMove_18 : decode cX5_finishMove 18 = .ok (.getfield 34, 3) := by decide +kernel
theorem dX5_finishMove_21 : decode cX5_finishMove 21 = .ok (.iconst 1, 1) := by decide +kernel
theorem dX5_finishMove_22 : decode cX5_finishMove 22 = .ok (.iadd, 1) := by decide +kernel
theorem dX5_finishMove_23 : decode cX5_finishMove 23 = .ok (.putfield 34, 3) := by decide +kernel
theorem dX5_finishMove_26 : decode cX5_finishMove 26 = .ok (.aload_n 0, 1) := by decide +kernel
theorem dX5_finishMove_27 : decode cX5_finishMove 27 = .ok (.dup, 1) := by decide +kernel
theorem dX5_finishMove_28 : decode cX5_finishMove 28 = .ok (.getfield 37, 3) := by decide +kernel
theorem dX5_finishMove_31 : decode cX5_finishMove 31 = .ok (.iconst 1, 1) := by decide +kernel
theorem dX5_finishMove_32 : decode cX5_finishMove 32 = .ok (.iadd, 1) := by decide +kernel
theorem dX5_finishMove_33 : decode cX5_finishMove 33 = .ok (.putfield 37, 3) := by decide +kernel
theorem dX5_finishMove_36 : decode cX5_finishMove 36 = .ok (.aload_n 0, 1) := by decide +kernel
theorem dX5_finishMove_37 : decode cX5_finishMove 37 = .ok (.aload_n 1, 1) := by decide +kernel
theorem dX5_finishMove_38 : decode cX5_finishMove 38 = .ok (.invokevirtual 104, 3) := by decide +kernel
theorem dX5_finishMove_41 : decode cX5_finishMove 41 = .ok (.ifCond .ne 8, 3) := by decide +kernel
theorem dX5_finishMove_44 : decode cX5_finishMove 44 = .ok (.aload_n 0, 1) := by decide +kernel
theorem dX5_finishMove_45 : decode cX5_finishMove 45 = .ok (.aload_n 1, 1) := by decide +kernel
theorem dX5_finishMove_46 : decode cX5_finishMove 46 = .ok (.invokevirtual 107, 3) := by decide +kernel
theorem dX5_finishMove_49 : decode cX5_finishMove 49 = .ok (.aload_n 0, 1) := by decide +kernel
theorem dX5_finishMove_50 : decode cX5_finishMove 50 = .ok (.invokevirtual 110, 3) := by decide +kernel
theorem dX5_finishMove_53 : decode cX5_finishMove 53 = .ok (.iload_n 2, 1) := by decide +kernel
theorem dX5_finishMove_54 : decode cX5_finishMove 54 = .ok (.ireturn, 1) := by decide +kernel
theorem dX5_beginNextPeriod_0 : decode cX5_beginNextPeriod 0 = .ok (.aload_n 0, 1) := by decide +kernel
theorem dX5_beginNextPeriod_1 : decode cX5_beginNextPeriod 1 = .ok (.dup, 1) := by decide +kernel
theorem dX5_beginNextPeriod_2 : decode cX5_beginNextPeriod 2 = .ok (.getfield 63, 3) := by decide +kernel
theorem dX5_beginNextPeriod_5 : decode cX5_beginNextPeriod 5 = .ok (.iconst 1, 1) := by decide +kernel
theorem dX5_beginNextPeriod_6 : decode cX5_beginNextPeriod 6 = .ok (.iadd, 1) := by decide +kernel
theorem dX5_beginNextPeriod_7 : decode cX5_beginNextPeriod 7 = .ok (.putfield 63, 3) := by decide +kernel
theorem dX5_beginNextPeriod_10 : decode cX5_beginNextPeriod 10 = .ok (.aload_n 0, 1) := by decide +kernel
theorem dX5_beginNextPeriod_11 : decode cX5_beginNextPeriod 11 = .ok (.aload_n 0, 1) := by decide +kernel
theorem dX5_beginNextPeriod_12 : decode cX5_beginNextPeriod 12 = .ok (.getfield 31, 3) := by decide +kernel
theorem dX5_beginNextPeriod_15 : decode cX5_beginNextPeriod 15 = .ok (.iconst 1, 1) := by decide +kernel
theorem dX5_beginNextPeriod_16 : decode cX5_beginNextPeriod 16 = .ok (.iadd, 1) := by decide +kernel
theorem dX5_beginNextPeriod_17 : decode cX5_beginNextPeriod 17 = .ok (.aload_n 1, 1) := by decide +kernel
theorem dX5_beginNextPeriod_18 : decode cX5_beginNextPeriod 18 = .ok (.getfield 113, 3) := by decide +kernel
theorem dX5_beginNextPeriod_21 : decode cX5_beginNextPeriod 21 = .ok (.iconst 1, 1) := by decide +kernel
theorem dX5_beginNextPeriod_22 : decode cX5_beginNextPeriod 22 = .ok (.isub, 1) := by decide +kernel
theorem dX5_beginNextPeriod_23 : decode cX5_beginNextPeriod 23 = .ok (.invokestatic 86, 3) := by decide +kernel
theorem dX5_beginNextPeriod_26 : decode cX5_beginNextPeriod 26 = .ok (.putfield 31, 3) := by decide +kernel
theorem dX5_beginNextPeriod_29 : decode cX5_beginNextPeriod 29 = .ok (.aload_n 0, 1) := by decide +kernel
theorem dX5_beginNextPeriod_30 : decode cX5_beginNextPeriod 30 = .ok (.iconst 0, 1) := by decide +kernel
theorem dX5_beginNextPeriod_31 : decode cX5_beginNextPeriod 31 = .ok (.putfield 37, 3) := by decide +kernel
theorem dX5_beginNextPeriod_34 : decode cX5_beginNextPeriod 34 = .ok (.aload_n 0, 1) := by decide +kernel
theorem dX5_beginNextPeriod_35 : decode cX5_beginNextPeriod 35 = .ok (.getfield 54, 3) := by decide +kernel
theorem dX5_beginNextPeriod_38 : decode cX5_beginNextPeriod 38 = .ok (.ifCond .ne 21, 3) := by decide +kernel
theorem dX5_beginNextPeriod_41 : decode cX5_beginNextPeriod 41 = .ok (.aload_n 0, 1) := by decide +kernel
theorem dX5_beginNextPeriod_42 : decode cX5_beginNextPeriod 42 = .ok (.dup, 1) := by decide +kernel
theorem dX5_beginNextPeriod_43 : decode cX5_beginNextPeriod 43 = .ok (.getfield 27, 3) := by decide +kernel
theorem dX5_beginNextPeriod_46 : decode cX5_beginNextPeriod 46 = .ok (.aload_n 1, 1) := by decide +kernel
theorem dX5_beginNextPeriod_47 : decode cX5_beginNextPeriod 47 = .ok (.aload_n 0, 1) := by decide +kernel
theorem dX5_beginNextPeriod_48 : decode cX5_beginNextPeriod 48 = .ok (.getfield 31, 3) := by decide +kernel
theorem dX5_beginNextPeriod_51 : decode cX5_beginNextPeriod 51 = .ok (.iconst 1, 1) := by decide +kernel
theorem dX5_beginNextPeriod_52 : decode cX5_beginNextPeriod 52 = .ok (.invokevirtual 21, 3) := by decide +kernel
theorem dX5_beginNextPeriod_55 : decode cX5_beginNextPeriod 55 = .ok (.iadd, 1) := by decide +kernel
theorem dX5_beginNextPeriod_56 : decode cX5_beginNextPeriod 56 = .ok (.putfield 27, 3) := by decide +kernel
theorem dX5_beginNextPeriod_59 : decode cX5_beginNextPeriod 59 = .ok (.return_, 1) := by decide +kernel
theorem dX5_dropMove_0 : decode cX5_dropMove 0 = .ok (.aload_n 0, 1) := by decide +kernel
theorem dX5_dropMove_1 : decode cX5_dropMove 1 = .ok (.iconst 0, 1) := by decide +kernel
theorem dX5_dropMove_2 : decode cX5_dropMove 2 = .ok (.putfield 48, 3) := by decide +kernel
theorem dX5_dropMove_5 : decode cX5_dropMove 5 = .ok (.aload_n 0, 1) := by decide +kernel
theorem dX5_dropMove_6 : decode cX5_dropMove 6 = .ok (.iconst 0, 1) := by decide +kernel
theorem dX5_dropMove_7 : decode cX5_dropMove 7 = .ok (.putfield 51, 3) := by decide +kernel
theorem dX5_dropMove_10 : decode cX5_dropMove 10 = .ok (.return_, 1) := by decide +kernel
theorem dX6_init_0 : decode cX6_init 0 = .ok (.aload_n 0, 1) := by decide +kernel
theorem dX6_init_1 : decode cX6_init 1 = .ok (.invokespecial 3, 3) := by decide +kernel
theorem dX6_init_4 : decode cX6_init 4 = .ok (.aload_n 0, 1) := by decide +kernel
theorem dX6_init_5 : decode cX6_init 5 = .ok (.new 9, 3) := by decide +kernel
theorem dX6_init_8 : decode cX6_init 8 = .ok (.dup, 1) := by decide +kernel
theorem dX6_init_9 : decode cX6_init 9 = .ok (.invokespecial 11, 3) := by decide +kernel
theorem dX6_init_12 : decode cX6_init 12 = .ok (.putfield 12, 3) := by decide +kernel
theorem dX6_init_15 : decode cX6_init 15 = .ok (.aload_n 0, 1) := by decide +kernel
theorem dX6_init_16 : decode cX6_init 16 = .ok (.new 18, 3) := by decide +kernel
theorem dX6_init_19 : decode cX6_init 19 = .ok (.dup, 1) := by decide +kernel
theorem dX6_init_20 : decode cX6_init 20 = .ok (.invokespecial 20, 3) := by decide +kernel
theorem dX6_init_23 : decode cX6_init 23 = .ok (.putfield 21, 3) := by decide +kernel
theorem dX6_init_26 : decode cX6_init 26 = .ok (.aload_n 0, 1) := by decide +kernel
theorem dX6_init_27 : decode cX6_init 27 = .ok (.new 25, 3) := by decide +kernel
theorem dX6_init_30 : decode cX6_init 30 = .ok (.dup, 1) := by decide +kernel
theorem dX6_init_31 : decode cX6_init 31 = .ok (.invokespecial 27, 3) := by decide +kernel
theorem dX6_init_34 : decode cX6_init 34 = .ok (.putfield 28, 3) := by decide +kernel
theorem dX6_init_37 : decode cX6_init 37 = .ok (.aload_n 0, 1) := by decide +kernel
theorem dX6_init_38 : decode cX6_init 38 = .ok (.new 25, 3) := by decide +kernel
theorem dX6_init_41 : decode cX6_init 41 = .ok (.dup, 1) := by decide +kernel
theorem dX6_init_42 : decode cX6_init 42 = .ok (.invokespecial 27, 3) := by decide +kernel
theorem dX6_init_45 : decode cX6_init 45 = .ok (.putfield 32, 3) := by decide +kernel
theorem dX6_init_48 : decode cX6_init 48 = .ok (.aload_n 0, 1) := by decide +kernel
theorem dX6_init_49 : decode cX6_init 49 = .ok (.iconst (-1), 1) := by decide +kernel
theorem dX6_init_50 : decode cX6_init 50 = .ok (.putfield 35, 3) := by decide +kernel
theorem dX6_init_53 : decode cX6_init 53 = .ok (.aload_n 0, 1) := by decide +kernel
theorem dX6_init_54 : decode cX6_init 54 = .ok (.iconst (-1), 1) := by decide +kernel
theorem dX6_init_55 : decode cX6_init 55 = .ok (.putfield 39, 3) := by decide +kernel
theorem dX6_init_58 : decode cX6_init 58 = .ok (.aload_n 0, 1) := by decide +kernel
theorem dX6_init_59 : decode cX6_init 59 = .ok (.getfield 12, 3) := by decide +kernel
theorem dX6_init_62 : decode cX6_init 62 = .ok (.iconst 1, 1) := by decide +kernel
theorem dX6_init_63 : decode cX6_init 63 = .ok (.putfield 42, 3) := by decide +kernel
theorem dX6_init_66 : decode cX6_init 66 = .ok (.aload_n 0, 1) := by decide +kernel
theorem dX6_init_67 : decode cX6_init 67 = .ok (.getfield 12, 3) := by decide +kernel
theorem dX6_init_70 : decode cX6_init 70 = .ok (.iconst 0, 1) := by decide +kernel
theorem dX6_init_71 : decode cX6_init 71 = .ok (.iconst 1, 1) := by decide +kernel
theorem dX6_init_72 : decode cX6_init 72 = .ok (.sipush 3000, 3) := by decide +kernel
theorem dX6_init_75 : decode cX6_init 75 = .ok (.invokevirtual 45, 3) := by decide +kernel
theorem dX6_init_78 : decode cX6_init 78 = .ok (.aload_n 0, 1) := by decide +kernel
theorem dX6_init_79 : decode cX6_init 79 = .ok (.getfield 28, 3) := by decide +kernel
theorem dX6_init_82 : decode cX6_init 82 = .ok (.aload_n 0, 1) := by decide +kernel
theorem dX6_init_83 : decode cX6_init 83 = .ok (.getfield 12, 3) := by decide +kernel
theorem dX6_init_86 : decode cX6_init 86 = .ok (.invokevirtual 49, 3) := by decide +kernel
theorem dX6_init_89 : decode cX6_init 89 = .ok (.aload_n 0, 1) := by decide +kernel
theorem dX6_init_90 : decode cX6_init 90 = .ok (.getfield 32, 3) := by decide +kernel
theorem dX6_init_93 : decode cX6_init 93 = .ok (.aload_n 0, 1) := by decide +kernel
theorem dX6_init_94 : decode cX6_init 94 = .ok (.getfield 12, 3) := by decide +kernel
theorem dX6_init_97 : decode cX6_init 97 = .ok (.invokevirtual 49, 3) := by decide +kernel
theorem dX6_init_100 : decode cX6_init 100 = .ok (.return_, 1) := by decide +kernel
theorem dX6_setUp_0 : decode cX6_setUp 0 = .ok (.aload_n 0, 1) := by decide +kernel
theorem dX6_setUp_1 : decode cX6_setUp 1 = .ok (.getfield 12, 3) := by decide +kernel
theorem dX6_setUp_4 : decode cX6_setUp 4 = .ok (.aload_n 1, 1) := by decide +kernel
theorem dX6_setUp_5 : decode cX6_setUp 5 = .ok (.invokevirtual 53, 3) := by decide +kernel
theorem dX6_setUp_8 : decode cX6_setUp 8 = .ok (.aload_n 0, 1) := by decide +kernel
theorem dX6_setUp_9 : decode cX6_setUp 9 = .ok (.getfield 21, 3) := by decide +kernel
theorem dX6_setUp_12 : decode cX6_setUp 12 = .ok (.invokevirtual 56, 3) := by decide +kernel
theorem dX6_setUp_15 : decode cX6_setUp 15 = .ok (.aload_n 0, 1) := by decide +kernel
theorem dX6_setUp_16 : decode cX6_setUp 16 = .ok (.getfield 28, 3) := by decide +kernel
theorem dX6_setUp_19 : decode cX6_setUp 19 = .ok (.aload_n 0, 1) := by decide +kernel
theorem dX6_setUp_20 : decode cX6_setUp 20 = .ok (.getfield 12, 3) := by decide +kernel
theorem dX6_setUp_23 : decode cX6_setUp 23 = .ok (.invokevirtual 49, 3) := by decide +kernel
theorem dX6_setUp_26 : decode cX6_setUp 26 = .ok (.aload_n 0, 1) := by decide +kernel
theorem dX6_setUp_27 : decode cX6_setUp 27 = .ok (.getfield 32, 3) := by decide +kernel
theorem dX6_setUp_30 : decode cX6_setUp 30 = .ok (.aload_n 0, 1) := by decide +kernel
theorem dX6_setUp_31 : decode cX6_setUp 31 = .ok (.getfield 12, 3) := by decide +kernel
theorem dX6_setUp_34 : decode cX6_setUp 34 = .ok (.invokevirtual 49, 3) := by decide +kernel
theorem dX6_setUp_37 : decode cX6_setUp 37 = .ok (.aload_n 0, 1) := by decide +kernel
theorem dX6_setUp_38 : decode cX6_setUp 38 = .ok (.iload_n 2, 1) := by decide +kernel
theorem dX6_setUp_39 : decode cX6_setUp 39 = .ok (.putfield 59, 3) := by decide +kernel
theorem dX6_setUp_42 : decode cX6_setUp 42 = .ok (.aload_n 0, 1) := by decide +kernel
theorem dX6_setUp_43 : decode cX6_setUp 43 = .ok (.iconst 0, 1) := by decide +kernel
theorem dX6_setUp_44 : decode cX6_setUp 44 = .ok (.putfield 63, 3) := by decide +kernel
theorem dX6_setUp_47 : decode cX6_setUp 47 = .ok (.aload_n 0, 1) := by decide +kernel
theorem dX6_setUp_48 : decode cX6_setUp 48 = .ok (.iconst 0, 1) := by decide +kernel
theorem dX6_setUp_49 : decode cX6_setUp 49 = .ok (.putfield 66, 3) := by decide +kernel
theorem dX6_setUp_52 : decode cX6_setUp 52 = .ok (.aload_n 0, 1) := by decide +kernel
theorem dX6_setUp_53 : decode cX6_setUp 53 = .ok (.iconst (-1), 1) := by decide +kernel
theorem dX6_setUp_54 : decode cX6_setUp 54 = .ok (.putfield 35, 3) := by decide +kernel
theorem dX6_setUp_57 : decode cX6_setUp 57 = .ok (.aload_n 0, 1) := by decide +kernel
theorem dX6_setUp_58 : decode cX6_setUp 58 = .ok (.iconst (-1), 1) := by decide +kernel
theorem dX6_setUp_59 : decode cX6_setUp 59 = .ok (.putfield 39, 3) := by decide +kernel
theorem dX6_setUp_62 : decode cX6_setUp 62 = .ok (.aload_n 0, 1) := by decide +kernel
theorem dX6_setUp_63 : decode cX6_setUp 63 = .ok (.iconst 0, 1) := by decide +kernel
theorem dX6_setUp_64 : decode cX6_setUp 64 = .ok (.putfield 69, 3) := by decide +kernel
theorem dX6_setUp_67 : decode cX6_setUp 67 = .ok (.aload_n 0, 1) := by decide +kernel
theorem dX6_setUp_68 : decode cX6_setUp 68 = .ok (.iconst 0, 1) := by decide +kernel
theorem dX6_setUp_69 : decode cX6_setUp 69 = .ok (.putfield 72, 3) := by decide +kernel
theorem dX6_setUp_72 : decode cX6_setUp 72 = .ok (.return_, 1) := by decide +kernel
theorem dX6_copyFrom_0 : decode cX6_copyFrom 0 = .ok (.aload_n 0, 1) := by decide +kernel
theorem dX6_copyFrom_1 : decode cX6_copyFrom 1 = .ok (.getfield 12, 3) := by decide +kernel
theorem dX6_copyFrom_4 : decode cX6_copyFrom 4 = .ok (.aload_n 1, 1) := by decide +kernel
theorem dX6_copyFrom_5 : decode cX6_copyFrom 5 = .ok (.getfield 12, 3) := by decide +kernel
theorem dX6_copyFrom_8 : decode cX6_copyFrom 8 = .ok (.invokevirtual 53, 3) := by decide +kernel
theorem dX6_copyFrom_11 : decode cX6_copyFrom 11 = .ok (.aload_n 0, 1) := by decide +kernel
theorem dX6_copyFrom_12 : decode cX6_copyFrom 12 = .ok (.getfield 21, 3) := by decide +kernel
theorem dX6_copyFrom_15 : decode cX6_copyFrom 15 = .ok (.aload_n 1, 1) := by decide +kernel
theorem dX6_copyFrom_16 : decode cX6_copyFrom 16 = .ok (.getfield 21, 3) := by decide +kernel
theorem dX6_copyFrom_19 : decode cX6_copyFrom 19 = .ok (.invokevirtual 75, 3) := by decide +kernel
theorem dX6_copyFrom_22 : decode cX6_copyFrom 22 = .ok (.aload_n 0, 1) := by decide +kernel
theorem dX6_copyFrom_23 : decode cX6_copyFrom 23 = .ok (.getfield 28, 3) := by decide +kernel
theorem dX6_copyFrom_26 : decode cX6_copyFrom 26 = .ok (.aload_n 1, 1) := by decide +kernel
theorem dX6_copyFrom_27 : decode cX6_copyFrom 27 = .ok (.getfield 28, 3) := by decide +kernel
theorem dX6_copyFrom_30 : decode cX6_copyFrom 30 = .ok (.invokevirtual 78, 3) := by decide +kernel
theorem dX6_copyFrom_33 : decode cX6_copyFrom 33 = .ok (.aload_n 0, 1) := by decide +kernel
theorem dX6_copyFrom_34 : decode cX6_copyFrom 34 = .ok (.getfield 32, 3) := by decide +kernel
theorem dX6_copyFrom_37 : decode cX6_copyFrom 37 = .ok (.aload_n 1, 1) := by decide +kernel
theorem dX6_copyFrom_38 : decode cX6_copyFrom 38 = .ok (.getfield 32, 3) := by decide +kernel
theorem dX6_copyFrom_41 : decode cX6_copyFrom 41 = .ok (.invokevirtual 78, 3) := by decide +kernel
theorem dX6_copyFrom_44 : decode cX6_copyFrom 44 = .ok (.aload_n 0, 1) := by decide +kernel
theorem dX6_copyFrom_45 : decode cX6_copyFrom 45 = .ok (.aload_n 1, 1) := by decide +kernel
theorem dX6_copyFrom_46 : decode cX6_copyFrom 46 = .ok (.getfield 59, 3) := by decide +kernel
theorem dX6_copyFrom_49 : decode cX6_copyFrom 49 = .ok (.putfield 59, 3) := by decide +kernel
theorem dX6_copyFrom_52 : decode cX6_copyFrom 52 = .ok (.aload_n 0, 1) := by decide +kernel
theorem dX6_copyFrom_53 : decode cX6_copyFrom 53 = .ok (.aload_n 1, 1) := by decide +kernel
theorem dX6_copyFrom_54 : decode cX6_copyFrom 54 = .ok (.getfield 63, 3) := by decide +kernel
theorem dX6_copyFrom_57 : decode cX6_copyFrom 57 = .ok (.putfield 63, 3) := by decide +kernel
theorem dX6_copyFrom_60 : decode cX6_copyFrom 60 = .ok (.aload_n 0, 1) := by decide +kernel
theorem dX6_copyFrom_61 : decode cX6_copyFrom 61 = .ok (.aload_n 1, 1) := by decide +kernel
theorem dX6_copyFrom_62 : decode cX6_copyFrom 62 = .ok (.getfield 66, 3) := by decide +kernel
theorem dX6_copyFrom_65 : decode cX6_copyFrom 65 = .ok (.putfield 66, 3) := by decide +kernel
theorem dX6_copyFrom_68 : decode cX6_copyFrom 68 = .ok (.aload_n 0, 1) := by decide +kernel
theorem dX6_copyFrom_69 : decode cX6_copyFrom 69 = .ok (.aload_n 1, 1) := by decide +kernel
theorem dX6_copyFrom_70 : decode cX6_copyFrom 70 = .ok (.getfield 35, 3) := by decide +kernel
theorem dX6_copyFrom_73 : decode cX6_copyFrom 73 = .ok (.putfield 35, 3) := by decide +kernel
theorem dX6_copyFrom_76 : decode cX6_copyFrom 76 = .ok (.aload_n 0, 1) := by decide +kernel
theorem dX6_copyFrom_77 : decode cX6_copyFrom 77 = .ok (.aload_n 1, 1) := by decide +kernel
theorem dX6_copyFrom_78 : decode cX6_copyFrom 78 = .ok (.getfield 39, 3) := by decide +kernel
theorem dX6_copyFrom_81 : decode cX6_copyFrom 81 = .ok (.putfield 39, 3) := by decide +kernel
theorem dX6_copyFrom_84 : decode cX6_copyFrom 84 = .ok (.aload_n 0, 1) := by decide +kernel
theorem dX6_copyFrom_85 : decode cX6_copyFrom 85 = .ok (.aload_n 1, 1) := by decide +kernel
theorem dX6_copyFrom_86 : decode cX6_copyFrom 86 = .ok (.getfield 69, 3) := by decide +kernel
theorem dX6_copyFrom_89 : decode cX6_copyFrom 89 = .ok (.putfield 69, 3) := by decide +kernel
theorem dX6_copyFrom_92 : decode cX6_copyFrom 92 = .ok (.aload_n 0, 1) := by decide +kernel
theorem dX6_copyFrom_93 : decode cX6_copyFrom 93 = .ok (.aload_n 1, 1) := by decide +kernel
theorem dX6_copyFrom_94 : decode cX6_copyFrom 94 = .ok (.getfield 72, 3) := by decide +kernel
theorem dX6_copyFrom_97 : decode cX6_copyFrom 97 = .ok (.putfield 72, 3) := by decide +kernel
theorem dX6_copyFrom_100 : decode cX6_copyFrom 100 = .ok (.return_, 1) := by decide +kernel
theorem dX6_sideOf_0 : decode cX6_sideOf 0 = .ok (.iload_n 1, 1) := by decide +kernel
theorem dX6_sideOf_1 : decode cX6_sideOf 1 = .ok (.ifCond .ne 10, 3) := by decide +kernel
theorem dX6_sideOf_4 : decode cX6_sideOf 4 = .ok (.aload_n 0, 1) := by decide +kernel
theorem dX6_sideOf_5 : decode cX6_sideOf 5 = .ok (.getfield 28, 3) := by decide +kernel
theorem dX6_sideOf_8 : decode cX6_sideOf 8 = .ok (.goto 7, 3) := by decide +kernel
theorem dX6_sideOf_11 : decode cX6_sideOf 11 = .ok (.aload_n 0, 1) := by decide +kernel
theorem dX6_sideOf_12 : decode cX6_sideOf 12 = .ok (.getfield 32, 3) := by decide +kernel
theorem dX6_sideOf_15 : decode cX6_sideOf 15 = .ok (.areturn, 1) := by decide +kernel
theorem dX6_mover_0 : decode cX6_mover 0 = .ok (.aload_n 0, 1) := by decide +kernel
theorem dX6_mover_1 : decode cX6_mover 1 = .ok (.aload_n 0, 1) := by decide +kernel
theorem dX6_mover_2 : decode cX6_mover 2 = .ok (.getfield 66, 3) := by decide +kernel
theorem dX6_mover_5 : decode cX6_mover 5 = .ok (.invokevirtual 81, 3) := by decide +kernel
theorem dX6_mover_8 : decode cX6_mover 8 = .ok (.areturn, 1) := by decide +kernel
theorem dX6_whiteAhead_0 : decode cX6_whiteAhead 0 = .ok (.aload_n 0, 1) := by decide +kernel
theorem dX6_whiteAhead_1 : decode cX6_whiteAhead 1 = .ok (.getfield 28, 3) := by decide +kernel
theorem dX6_whiteAhead_4 : decode cX6_whiteAhead 4 = .ok (.getfield 85, 3) := by decide +kernel
theorem dX6_whiteAhead_7 : decode cX6_whiteAhead 7 = .ok (.aload_n 0, 1) := by decide +kernel
theorem dX6_whiteAhead_8 : decode cX6_whiteAhead 8 = .ok (.getfield 32, 3) := by decide +kernel
theorem dX6_whiteAhead_11 : decode cX6_whiteAhead 11 = .ok (.getfield 85, 3) := by decide +kernel
theorem dX6_whiteAhead_14 : decode cX6_whiteAhead 14 = .ok (.isub, 1) := by decide +kernel
theorem dX6_whiteAhead_15 : decode cX6_whiteAhead 15 = .ok (.ireturn, 1) := by decide +kernel
theorem dX6_swapSides_0 : decode cX6_swapSides 0 = .ok (.aload_n 0, 1) := by decide +kernel
theorem dX6_swapSides_1 : decode cX6_swapSides 1 = .ok (.getfield 28, 3) := by decide +kernel
theorem dX6_swapSides_4 : decode cX6_swapSides 4 = .ok (.astore_n 1, 1) := by decide +kernel
theorem dX6_swapSides_5 : decode cX6_swapSides 5 = .ok (.aload_n 0, 1) := by decide +kernel
theorem dX6_swapSides_6 : decode cX6_swapSides 6 = .ok (.aload_n 0, 1) := by decide +kernel
theorem dX6_swapSides_7 : decode cX6_swapSides 7 = .ok (.getfield 32, 3) := by decide +kernel
theorem dX6_swapSides_10 : decode cX6_swapSides 10 = .ok (.putfield 28, 3) := by decide +kernel
theorem dX6_swapSides_13 : decode cX6_swapSides 13 = .ok (.aload_n 0, 1) := by decide +kernel
theorem dX6_swapSides_14 : decode cX6_swapSides 14 = .ok (.aload_n 1, 1) := by decide +kernel
theorem dX6_swapSides_15 : decode cX6_swapSides 15 = .ok (.putfield 32, 3) := by decide +kernel
theorem dX6_swapSides_18 : decode cX6_swapSides 18 = .ok (.return_, 1) := by decide +kernel
theorem dX6_resultOfFall_0 : decode cX6_resultOfFall 0 = .ok (.aload_n 0, 1) := by decide +kernel
theorem dX6_resultOfFall_1 : decode cX6_resultOfFall 1 = .ok (.iload_n 1, 1) := by decide +kernel
theorem dX6_resultOfFall_2 : decode cX6_resultOfFall 2 = .ok (.invokestatic 88, 3) := by decide +kernel
theorem dX6_resultOfFall_5 : decode cX6_resultOfFall 5 = .ok (.invokevirtual 81, 3) := by decide +kernel
theorem dX6_resultOfFall_8 : decode cX6_resultOfFall 8 = .ok (.getfield 92, 3) := by decide +kernel
theorem dX6_resultOfFall_11 : decode cX6_resultOfFall 11 = .ok (.ifCond .eq 7, 3) := by decide +kernel
theorem dX6_resultOfFall_14 : decode cX6_resultOfFall 14 = .ok (.iconst 2, 1) := by decide +kernel
theorem dX6_resultOfFall_15 : decode cX6_resultOfFall 15 = .ok (.goto 7, 3) := by decide +kernel
theorem dX6_resultOfFall_18 : decode cX6_resultOfFall 18 = .ok (.iload_n 1, 1) := by decide +kernel
theorem dX6_resultOfFall_19 : decode cX6_resultOfFall 19 = .ok (.invokestatic 88, 3) := by decide +kernel
theorem dX6_resultOfFall_22 : decode cX6_resultOfFall 22 = .ok (.ireturn, 1) := by decide +kernel
theorem dX6_endWith_0 : decode cX6_endWith 0 = .ok (.aload_n 0, 1) := by decide +kernel
theorem dX6_endWith_1 : decode cX6_endWith 1 = .ok (.iconst 4, 1) := by decide +kernel
theorem dX6_endWith_2 : decode cX6_endWith 2 = .ok (.putfield 63, 3) := by decide +kernel
theorem dX6_endWith_5 : decode cX6_endWith 5 = .ok (.aload_n 0, 1) := by decide +kernel
theorem dX6_endWith_6 : decode cX6_endWith 6 = .ok (.iload_n 1, 1) := by decide +kernel
theorem dX6_endWith_7 : decode cX6_endWith 7 = .ok (.putfield 35, 3) := by decide +kernel
theorem dX6_endWith_10 : decode cX6_endWith 10 = .ok (.return_, 1) := by decide +kernel
theorem dX6_ticksToSealing_0 : decode cX6_ticksToSealing 0 = .ok (.aload_n 0, 1) := by decide +kernel
theorem dX6_ticksToSealing_1 : decode cX6_ticksToSealing 1 = .ok (.getfield 63, 3) := by decide +kernel
theorem dX6_ticksToSealing_4 : decode cX6_ticksToSealing 4 = .ok (.iconst 1, 1) := by decide +kernel
theorem dX6_ticksToSealing_5 : decode cX6_ticksToSealing 5 = .ok (.if_icmp .ne 14, 3) := by decide +kernel
theorem dX6_ticksToSealing_8 : decode cX6_ticksToSealing 8 = .ok (.aload_n 0, 1) := by decide +kernel
theorem dX6_ticksToSealing_9 : decode cX6_ticksToSealing 9 = .ok (.getfield 12, 3) := by decide +kernel
theorem dX6_ticksToSealing_12 : decode cX6_ticksToSealing 12 = .ok (.getfield 95, 3) := by decide +kernel
theorem dX6_ticksToSealing_15 : decode cX6_ticksToSealing 15 = .ok (.iconst (-1), 1) := by decide +kernel
theorem dX6_ticksToSealing_16 : decode cX6_ticksToSealing 16 = .ok (.if_icmp .ne 5, 3) := by decide +kernel
theorem dX6_ticksToSealing_19 : decode cX6_ticksToSealing 19 = .ok (.iconst (-1), 1) := by decide +kernel
theorem dX6_ticksToSealing_20 : decode cX6_ticksToSealing 20 = .ok (.ireturn, 1) := by decide +kernel
theorem dX6_ticksToSealing_21 : decode cX6_ticksToSealing 21 = .ok (.iconst 0, 1) := by decide +kernel
theorem dX6_ticksToSealing_22 : decode cX6_ticksToSealing 22 = .ok (.aload_n 0, 1) := by decide +kernel
theorem dX6_ticksToSealing_23 : decode cX6_ticksToSealing 23 = .ok (.getfield 12, 3) := by decide +kernel
theorem dX6_ticksToSealing_26 : decode cX6_ticksToSealing 26 = .ok (.getfield 95, 3) := by decide +kernel
theorem dX6_ticksToSealing_29 : decode cX6_ticksToSealing 29 = .ok (.aload_n 0, 1) := by decide +kernel
theorem dX6_ticksToSealing_30 : decode cX6_ticksToSealing 30 = .ok (.getfield 72, 3) := by decide +kernel
theorem dX6_ticksToSealing_33 : decode cX6_ticksToSealing 33 = .ok (.isub, 1) := by decide +kernel
theorem dX6_ticksToSealing_34 : decode cX6_ticksToSealing 34 = .ok (.invokestatic 98, 3) := by decide +kernel
theorem dX6_ticksToSealing_37 : decode cX6_ticksToSealing 37 = .ok (.ireturn, 1) := by decide +kernel
theorem dX6_letRun_0 : decode cX6_letRun 0 = .ok (.aload_n 0, 1) := by decide +kernel
theorem dX6_letRun_1 : decode cX6_letRun 1 = .ok (.invokevirtual 104, 3) := by decide +kernel
theorem dX6_letRun_4 : decode cX6_letRun 4 = .ok (.astore_n 2, 1) := by decide +kernel
theorem dX6_letRun_5 : decode cX6_letRun 5 = .ok (.aload_n 2, 1) := by decide +kernel
theorem dX6_letRun_6 : decode cX6_letRun 6 = .ok (.getfield 108, 3) := by decide +kernel
theorem dX6_letRun_9 : decode cX6_letRun 9 = .ok (.istore_n 3, 1) := by decide +kernel
theorem dX6_letRun_10 : decode cX6_letRun 10 = .ok (.iload_n 1, 1) := by decide +kernel
theorem dX6_letRun_11 : decode cX6_letRun 11 = .ok (.istore 4, 2) := by decide +kernel
theorem dX6_letRun_13 : decode cX6_letRun 13 = .ok (.aload_n 0, 1) := by decide +kernel
theorem dX6_letRun_14 : decode cX6_letRun 14 = .ok (.getfield 59, 3) := by decide +kernel
theorem dX6_letRun_17 : decode cX6_letRun 17 = .ok (.ifCond .ne 21, 3) := by decide +kernel
theorem dX6_letRun_20 : decode cX6_letRun 20 = .ok (.iload_n 3, 1) := by decide +kernel
theorem dX6_letRun_21 : decode cX6_letRun 21 = .ok (.ifCond .ne 17, 3) := by decide +kernel
theorem dX6_letRun_24 : decode cX6_letRun 24 = .ok (.iload_n 1, 1) := by decide +kernel
theorem dX6_letRun_25 : decode cX6_letRun 25 = .ok (.aload_n 2, 1) := by decide +kernel
theorem dX6_letRun_26 : decode cX6_letRun 26 = .ok (.aload_n 0, 1) := by decide +kernel
theorem dX6_letRun_27 : decode cX6_letRun 27 = .ok (.getfield 12, 3) := by decide +kernel
theorem dX6_letRun_30 : decode cX6_letRun 30 = .ok (.invokevirtual 111, 3) := by decide +kernel
theorem dX6_letRun_33 : decode cX6_letRun 33 = .ok (.invokestatic 115, 3) := by decide +kernel
theorem dX6_letRun_36 : decode cX6_letRun 36 = .ok (.istore 4, 2) := by decide +kernel
theorem dX6_letRun_38 : decode cX6_letRun 38 = .ok (.aload_n 0, 1) := by decide +kernel
theorem dX6_letRun_39 : decode cX6_letRun 39 = .ok (.dup, 1) := by decide +kernel
theorem dX6_letRun_40 : decode cX6_letRun 40 = .ok (.getfield 69, 3) := by decide +kernel
theorem dX6_letRun_43 : decode cX6_letRun 43 = .ok (.iload 4, 2) := by decide +kernel
theorem dX6_letRun_45 : decode cX6_letRun 45 = .ok (.iadd, 1) := by decide +kernel
theorem dX6_letRun_46 : decode cX6_letRun 46 = .ok (.putfield 69, 3) := by decide +kernel
theorem dX6_letRun_49 : decode cX6_letRun 49 = .ok (.aload_n 0, 1) := by decide +kernel
theorem dX6_letRun_50 : decode cX6_letRun 50 = .ok (.dup, 1) := by decide +kernel
theorem dX6_letRun_51 : decode cX6_letRun 51 = .ok (.getfield 72, 3) := by decide +kernel
theorem dX6_letRun_54 : decode cX6_letRun 54 = .ok (.iload 4, 2) := by decide +kernel
theorem dX6_letRun_56 : decode cX6_letRun 56 = .ok (.iadd, 1) := by decide +kernel
theorem dX6_letRun_57 : decode cX6_letRun 57 = .ok (.putfield 72, 3) := by decide +kernel
theorem dX6_letRun_60 : decode cX6_letRun 60 = .ok (.aload_n 2, 1) := by decide +kernel
theorem dX6_letRun_61 : decode cX6_letRun 61 = .ok (.aload_n 0, 1) := by decide +kernel
theorem dX6_letRun_62 : decode cX6_letRun 62 = .ok (.getfield 12, 3) := by decide +kernel
theorem dX6_letRun_65 : decode cX6_letRun 65 = .ok (.iload 4, 2) := by decide +kernel
theorem dX6_letRun_67 : decode cX6_letRun 67 = .ok (.invokevirtual 118, 3) := by decide +kernel
theorem dX6_letRun_70 : decode cX6_letRun 70 = .ok (.aload_n 2, 1) := by decide +kernel
theorem dX6_letRun_71 : decode cX6_letRun 71 = .ok (.getfield 108, 3) := by decide +kernel
theorem dX6_letRun_74 : decode cX6_letRun 74 = .ok (.ifCond .eq 11, 3) := by decide +kernel
theorem dX6_letRun_77 : decode cX6_letRun 77 = .ok (.iload_n 3, 1) := by decide +kernel
theorem dX6_letRun_78 : decode cX6_letRun 78 = .ok (.ifCond .ne 7, 3) := by decide +kernel
theorem dX6_letRun_81 : decode cX6_letRun 81 = .ok (.aload_n 0, 1) := by decide +kernel
theorem dX6_letRun_82 : decode cX6_letRun 82 = .ok (.invokevirtual 122, 3) := by decide +kernel
theorem dX6_letRun_85 : decode cX6_letRun 85 = .ok (.return_, 1) := by decide +kernel
theorem dX6_noteFall_0 : decode cX6_noteFall 0 = .ok (.aload_n 0, 1) := by decide +kernel
theorem dX6_noteFall_1 : decode cX6_noteFall 1 = .ok (.getfield 39, 3) := by decide +kernel
theorem dX6_noteFall_4 : decode cX6_noteFall 4 = .ok (.iconst (-1), 1) := by decide +kernel
theorem dX6_noteFall_5 : decode cX6_noteFall 5 = .ok (.if_icmp .ne 11, 3) := by decide +kernel
theorem dX6_noteFall_8 : decode cX6_noteFall 8 = .ok (.aload_n 0, 1) := by decide +kernel
theorem dX6_noteFall_9 : decode cX6_noteFall 9 = .ok (.aload_n 0, 1) := by decide +kernel
theorem dX6_noteFall_10 : decode cX6_noteFall 10 = .ok (.getfield 66, 3) := by decide +kernel
theorem dX6_noteFall_13 : decode cX6_noteFall 13 = .ok (.putfield 39, 3) := by decide +kernel
theorem dX6_noteFall_16 : decode cX6_noteFall 16 = .ok (.aload_n 0, 1) := by decide +kernel
theorem dX6_noteFall_17 : decode cX6_noteFall 17 = .ok (.getfield 59, 3) := by decide +kernel
theorem dX6_noteFall_20 : decode cX6_noteFall 20 = .ok (.ifCond .ne 15, 3) := by decide +kernel
theorem dX6_noteFall_23 : decode cX6_noteFall 23 = .ok (.aload_n 0, 1) := by decide +kernel
theorem dX6_noteFall_24 : decode cX6_noteFall 24 = .ok (.aload_n 0, 1) := by decide +kernel
theorem dX6_noteFall_25 : decode cX6_noteFall 25 = .ok (.aload_n 0, 1) := by decide +kernel
theorem dX6_noteFall_26 : decode cX6_noteFall 26 = .ok (.getfield 66, 3) := by decide +kernel
theorem dX6_noteFall_29 : decode cX6_noteFall 29 = .ok (.invokevirtual 125, 3) := by decide +kernel
theorem dX6_noteFall_32 : decode cX6_noteFall 32 = .ok (.invokevirtual 128, 3) := by decide +kernel
theorem dX6_noteFall_35 : decode cX6_noteFall 35 = .ok (.return_, 1) := by decide +kernel
theorem dX6_makeMove_0 : decode cX6_makeMove 0 = .ok (.aload_n 0, 1) := by decide +kernel
theorem dX6_makeMove_1 : decode cX6_makeMove 1 = .ok (.invokevirtual 104, 3) := by decide +kernel
theorem dX6_makeMove_4 : decode cX6_makeMove 4 = .ok (.astore_n 1, 1) := by decide +kernel
theorem dX6_makeMove_5 : decode cX6_makeMove 5 = .ok (.aload_n 1, 1) := by decide +kernel
theorem dX6_makeMove_6 : decode cX6_makeMove 6 = .ok (.getfield 132, 3) := by decide +kernel
theorem dX6_makeMove_9 : decode cX6_makeMove 9 = .ok (.istore_n 2, 1) := by decide +kernel
theorem dX6_makeMove_10 : decode cX6_makeMove 10 = .ok (.aload_n 1, 1) := by decide +kernel
theorem dX6_makeMove_11 : decode cX6_makeMove 11 = .ok (.getfield 135, 3) := by decide +kernel
theorem dX6_makeMove_14 : decode cX6_makeMove 14 = .ok (.istore_n 3, 1) := by decide +kernel
theorem dX6_makeMove_15 : decode cX6_makeMove 15 = .ok (.aload_n 1, 1) := by decide +kernel
theorem dX6_makeMove_16 : decode cX6_makeMove 16 = .ok (.aload_n 0, 1) := by decide +kernel
theorem dX6_makeMove_17 : decode cX6_makeMove 17 = .ok (.getfield 12, 3) := by decide +kernel
theorem dX6_makeMove_20 : decode cX6_makeMove 20 = .ok (.invokevirtual 138, 3) := by decide +kernel
theorem dX6_makeMove_23 : decode cX6_makeMove 23 = .ok (.istore 4, 2) := by decide +kernel
theorem dX6_makeMove_25 : decode cX6_makeMove 25 = .ok (.aload_n 0, 1) := by decide +kernel
theorem dX6_makeMove_26 : decode cX6_makeMove 26 = .ok (.getfield 21, 3) := by decide +kernel
theorem dX6_makeMove_29 : decode cX6_makeMove 29 = .ok (.aload_n 0, 1) := by decide +kernel
theorem dX6_makeMove_30 : decode cX6_makeMove 30 = .ok (.getfield 66, 3) := by decide +kernel
theorem dX6_makeMove_33 : decode cX6_makeMove 33 = .ok (.iload_n 2, 1) := by decide +kernel
theorem dX6_makeMove_34 : decode cX6_makeMove 34 = .ok (.iload_n 3, 1) := by decide +kernel
theorem dX6_makeMove_35 : decode cX6_makeMove 35 = .ok (.iload 4, 2) := by decide +kernel
theorem dX6_makeMove_37 : decode cX6_makeMove 37 = .ok (.aload_n 1, 1) := by decide +kernel
theorem dX6_makeMove_38 : decode cX6_makeMove 38 = .ok (.getfield 85, 3) := by decide +kernel
theorem dX6_makeMove_41 : decode cX6_makeMove 41 = .ok (.aload_n 0, 1) := by decide +kernel
theorem dX6_makeMove_42 : decode cX6_makeMove 42 = .ok (.getfield 69, 3) := by decide +kernel
theorem dX6_makeMove_45 : decode cX6_makeMove 45 = .ok (.invokevirtual 141, 3) := by decide +kernel
theorem dX6_makeMove_48 : decode cX6_makeMove 48 = .ok (.aload_n 0, 1) := by decide +kernel
theorem dX6_makeMove_49 : decode cX6_makeMove 49 = .ok (.aload_n 0, 1) := by decide +kernel
theorem dX6_makeMove_50 : decode cX6_makeMove 50 = .ok (.getfield 66, 3) := by decide +kernel
theorem dX6_makeMove_53 : decode cX6_makeMove 53 = .ok (.invokestatic 88, 3) := by decide +kernel
theorem dX6_makeMove_56 : decode cX6_makeMove 56 = .ok (.putfield 66, 3) := by decide +kernel
theorem dX6_makeMove_59 : decode cX6_makeMove 59 = .ok (.iload 4, 2) := by decide +kernel
theorem dX6_makeMove_61 : decode cX6_makeMove 61 = .ok (.ireturn, 1) := by decide +kernel
theorem dX7_init_0 : decode cX7_init 0 = .ok (.aload_n 0, 1) := by decide +kernel
theorem dX7_init_1 : decode cX7_init 1 = .ok (.invokespecial 3, 3) := by decide +kernel
theorem dX7_init_4 : decode cX7_init 4 = .ok (.aload_n 0, 1) := by decide +kernel
theorem dX7_init_5 : decode cX7_init 5 = .ok (.new 9, 3) := by decide +kernel
theorem dX7_init_8 : decode cX7_init 8 = .ok (.dup, 1) := by decide +kernel
theorem dX7_init_9 : decode cX7_init 9 = .ok (.invokespecial 11, 3) := by decide +kernel
theorem dX7_init_12 : decode cX7_init 12 = .ok (.putfield 12, 3) := by decide +kernel
theorem dX7_init_15 : decode cX7_init 15 = .ok (.aload_n 0, 1) := by decide +kernel
theorem dX7_init_16 : decode cX7_init 16 = .ok (.new 9, 3) := by decide +kernel
theorem dX7_init_19 : decode cX7_init 19 = .ok (.dup, 1) := by decide +kernel
theorem dX7_init_20 : decode cX7_init 20 = .ok (.invokespecial 11, 3) := by decide +kernel
theorem dX7_init_23 : decode cX7_init 23 = .ok (.putfield 18, 3) := by decide +kernel
theorem dX7_init_26 : decode cX7_init 26 = .ok (.return_, 1) := by decide +kernel
theorem dX8_init_0 : decode cX8_init 0 = .ok (.aload_n 0, 1) := by decide +kernel
theorem dX8_init_1 : decode cX8_init 1 = .ok (.invokespecial 1, 3) := by decide +kernel
theorem dX8_init_4 : decode cX8_init 4 = .ok (.aload_n 0, 1) := by decide +kernel
theorem dX8_init_5 : decode cX8_init 5 = .ok (.new 7, 3) := by decide +kernel
theorem dX8_init_8 : decode cX8_init 8 = .ok (.dup, 1) := by decide +kernel
theorem dX8_init_9 : decode cX8_init 9 = .ok (.invokespecial 9, 3) := by decide +kernel
theorem dX8_init_12 : decode cX8_init 12 = .ok (.putfield 10, 3) := by decide +kernel
theorem dX8_init_15 : decode cX8_init 15 = .ok (.aload_n 0, 1) := by decide +kernel
theorem dX8_init_16 : decode cX8_init 16 = .ok (.aload_n 0, 1) := by decide +kernel
theorem dX8_init_17 : decode cX8_init 17 = .ok (.getfield 10, 3) := by decide +kernel
theorem dX8_init_20 : decode cX8_init 20 = .ok (.getfield 16, 3) := by decide +kernel
theorem dX8_init_23 : decode cX8_init 23 = .ok (.putfield 20, 3) := by decide +kernel
theorem dX8_init_26 : decode cX8_init 26 = .ok (.aload_n 0, 1) := by decide +kernel
theorem dX8_init_27 : decode cX8_init 27 = .ok (.new 21, 3) := by decide +kernel
theorem dX8_init_30 : decode cX8_init 30 = .ok (.dup, 1) := by decide +kernel
theorem dX8_init_31 : decode cX8_init 31 = .ok (.invokespecial 23, 3) := by decide +kernel
theorem dX8_init_34 : decode cX8_init 34 = .ok (.putfield 24, 3) := by decide +kernel
theorem dX8_init_37 : decode cX8_init 37 = .ok (.aload_n 0, 1) := by decide +kernel
theorem dX8_init_38 : decode cX8_init 38 = .ok (.new 28, 3) := by decide +kernel
theorem dX8_init_41 : decode cX8_init 41 = .ok (.dup, 1) := by decide +kernel
theorem dX8_init_42 : decode cX8_init 42 = .ok (.invokespecial 30, 3) := by decide +kernel
theorem dX8_init_45 : decode cX8_init 45 = .ok (.putfield 31, 3) := by decide +kernel
theorem dX8_init_48 : decode cX8_init 48 = .ok (.aload_n 0, 1) := by decide +kernel
theorem dX8_init_49 : decode cX8_init 49 = .ok (.new 35, 3) := by decide +kernel
theorem dX8_init_52 : decode cX8_init 52 = .ok (.dup, 1) := by decide +kernel
theorem dX8_init_53 : decode cX8_init 53 = .ok (.invokespecial 37, 3) := by decide +kernel
theorem dX8_init_56 : decode cX8_init 56 = .ok (.putfield 38, 3) := by decide +kernel
theorem dX8_init_59 : decode cX8_init 59 = .ok (.aload_n 0, 1) := by decide +kernel
theorem dX8_init_60 : decode cX8_init 60 = .ok (.bipush 6, 2) := by decide +kernel
theorem dX8_init_62 : decode cX8_init 62 = .ok (.anewarray 28, 3) := by decide +kernel
theorem dX8_init_65 : decode cX8_init 65 = .ok (.putfield 42, 3) := by decide +kernel
theorem dX8_init_68 : decode cX8_init 68 = .ok (.aload_n 0, 1) := by decide +kernel
theorem dX8_init_69 : decode cX8_init 69 = .ok (.iconst 2, 1) := by decide +kernel
theorem dX8_init_70 : decode cX8_init 70 = .ok (.anewarray 28, 3) := by decide +kernel
theorem dX8_init_73 : decode cX8_init 73 = .ok (.putfield 46, 3) := by decide +kernel
theorem dX8_init_76 : decode cX8_init 76 = .ok (.iconst 0, 1) := by decide +kernel
theorem dX8_init_77 : decode cX8_init 77 = .ok (.istore_n 1, 1) := by decide +kernel
theorem dX8_init_78 : decode cX8_init 78 = .ok (.iload_n 1, 1) := by decide +kernel
theorem dX8_init_79 : decode cX8_init 79 = .ok (.aload_n 0, 1) := by decide +kernel
theorem dX8_init_80 : decode cX8_init 80 = .ok (.getfield 42, 3) := by decide +kernel
theorem dX8_init_83 : decode cX8_init 83 = .ok (.arraylength, 1) := by decide +kernel
theorem dX8_init_84 : decode cX8_init 84 = .ok (.if_icmp .ge 22, 3) := by decide +kernel
theorem dX8_init_87 : decode cX8_init 87 = .ok (.aload_n 0, 1) := by decide +kernel
theorem dX8_init_88 : decode cX8_init 88 = .ok (.getfield 42, 3) := by decide +kernel
theorem dX8_init_91 : decode cX8_init 91 = .ok (.iload_n 1, 1) := by decide +kernel
theorem dX8_init_92 : decode cX8_init 92 = .ok (.new 28, 3) := by decide +kernel
theorem dX8_init_95 : decode cX8_init 95 = .ok (.dup, 1) := by decide +kernel
theorem dX8_init_96 : decode cX8_init 96 = .ok (.invokespecial 30, 3) := by decide +kernel
theorem dX8_init_99 : decode cX8_init 99 = .ok (.aastore, 1) := by decide +kernel
theorem dX8_init_100 : decode cX8_init 100 = .ok (.iinc 1 1, 3) := by decide +kernel
theorem dX8_init_103 : decode cX8_init 103 = .ok (.goto (-25), 3) := by decide +kernel
theorem dX8_init_106 : decode cX8_init 106 = .ok (.iconst 0, 1) := by decide +kernel
theorem dX8_init_107 : decode cX8_init 107 = .ok (.istore_n 1, 1) := by decide +kernel
theorem dX8_init_108 : decode cX8_init 108 = .ok (.iload_n 1, 1) := by decide +kernel
theorem dX8_init_109 : decode cX8_init 109 = .ok (.aload_n 0, 1) := by decide +kernel
theorem dX8_init_110 : decode cX8_init 110 = .ok (.getfield 46, 3) := by decide +kernel
theorem dX8_init_113 : decode cX8_init 113 = .ok (.arraylength, 1) := by decide +kernel
theorem dX8_init_114 : decode cX8_init 114 = .ok (.if_icmp .ge 22, 3) := by decide +kernel
theorem dX8_init_117 : decode cX8_init 117 = .ok (.aload_n 0, 1) := by decide +kernel
theorem dX8_init_118 : decode cX8_init 118 = .ok (.getfield 46, 3) := by decide +kernel
theorem dX8_init_121 : decode cX8_init 121 = .ok (.iload_n 1, 1) := by decide +kernel
theorem dX8_init_122 : decode cX8_init 122 = .ok (.new 28, 3) := by decide +kernel
theorem dX8_init_125 : decode cX8_init 125 = .ok (.dup, 1) := by decide +kernel
theorem dX8_init_126 : decode cX8_init 126 = .ok (.invokespecial 30, 3) := by decide +kernel
theorem dX8_init_129 : decode cX8_init 129 = .ok (.aastore, 1) := by decide +kernel
theorem dX8_init_130 : decode cX8_init 130 = .ok (.iinc 1 1, 3) := by decide +kernel
theorem dX8_init_133 : decode cX8_init 133 = .ok (.goto (-25), 3) := by decide +kernel
theorem dX8_init_136 : decode cX8_init 136 = .ok (.return_, 1) := by decide +kernel
theorem dX8_append_0 : decode cX8_append 0 = .ok (.aload_n 0, 1) := by decide +kernel
theorem dX8_append_1 : decode cX8_append 1 = .ok (.getfield 20, 3) := by decide +kernel
theorem dX8_append_4 : decode cX8_append 4 = .ok (.getfield 49, 3) := by decide +kernel
theorem dX8_append_7 : decode cX8_append 7 = .ok (.bipush 20, 2) := by decide +kernel
theorem dX8_append_9 : decode cX8_append 9 = .ok (.iadd, 1) := by decide +kernel
theorem dX8_append_10 : decode cX8_append 10 = .ok (.sipush 400, 3) := by decide +kernel
theorem dX8_append_13 : decode cX8_append 13 = .ok (.if_icmp .le 13, 3) := by decide +kernel
theorem dX8_append_16 : decode cX8_append 16 = .ok (.new 55, 3) := by decide +kernel
theorem dX8_append_19 : decode cX8_append 19 = .ok (.dup, 1) := by decide +kernel
theorem dX8_append_20 : decode cX8_append 20 = .ok (.ldc 57, 2) := by decide +kernel
theorem dX8_append_22 : decode cX8_append 22 = .ok (.invokespecial 59, 3) := by decide +kernel
theorem dX8_append_25 : decode cX8_append 25 = .ok (.athrow, 1) := by decide +kernel
theorem dX8_append_26 : decode cX8_append 26 = .ok (.aload_n 0, 1) := by decide +kernel
theorem dX8_append_27 : decode cX8_append 27 = .ok (.getfield 20, 3) := by decide +kernel
theorem dX8_append_30 : decode cX8_append 30 = .ok (.iload_n 1, 1) := by decide +kernel
theorem dX8_append_31 : decode cX8_append 31 = .ok (.invokevirtual 62, 3) := by decide +kernel
theorem dX8_append_34 : decode cX8_append 34 = .ok (.aload_n 0, 1) := by decide +kernel
theorem dX8_append_35 : decode cX8_append 35 = .ok (.getfield 20, 3) := by decide +kernel
theorem dX8_append_38 : decode cX8_append 38 = .ok (.iload_n 2, 1) := by decide +kernel
theorem dX8_append_39 : decode cX8_append 39 = .ok (.invokevirtual 62, 3) := by decide +kernel
theorem dX8_append_42 : decode cX8_append 42 = .ok (.aload_n 0, 1) := by decide +kernel
theorem dX8_append_43 : decode cX8_append 43 = .ok (.getfield 20, 3) := by decide +kernel
theorem dX8_append_46 : decode cX8_append 46 = .ok (.iload_n 3, 1) := by decide +kernel
theorem dX8_append_47 : decode cX8_append 47 = .ok (.invokevirtual 62, 3) := by decide +kernel
theorem dX8_append_50 : decode cX8_append 50 = .ok (.aload_n 0, 1) := by decide +kernel
theorem dX8_append_51 : decode cX8_append 51 = .ok (.getfield 20, 3) := by decide +kernel
theorem dX8_append_54 : decode cX8_append 54 = .ok (.iload 4, 2) := by decide +kernel
theorem dX8_append_56 : decode cX8_append 56 = .ok (.invokevirtual 62, 3) := by decide +kernel
theorem dX8_append_59 : decode cX8_append 59 = .ok (.aload_n 0, 1) := by decide +kernel
theorem dX8_append_60 : decode cX8_append 60 = .ok (.getfield 20, 3) := by decide +kernel
theorem dX8_append_63 : decode cX8_append 63 = .ok (.iload 5, 2) := by decide +kernel
theorem dX8_append_65 : decode cX8_append 65 = .ok (.invokevirtual 62, 3) := by decide +kernel
theorem dX8_append_68 : decode cX8_append 68 = .ok (.aload_n 0, 1) := by decide +kernel
theorem dX8_append_69 : decode cX8_append 69 = .ok (.getfield 20, 3) := by decide +kernel
theorem dX8_append_72 : decode cX8_append 72 = .ok (.getfield 49, 3) := by decide +kernel
theorem dX8_append_75 : decode cX8_append 75 = .ok (.ireturn, 1) := by decide +kernel
theorem dX8_truncate_0 : decode cX8_truncate 0 = .ok (.iload_n 1, 1) := by decide +kernel
theorem dX8_truncate_1 : decode cX8_truncate 1 = .ok (.ifCond .lt 14, 3) := by decide +kernel
theorem dX8_truncate_4 : decode cX8_truncate 4 = .ok (.iload_n 1, 1) := by decide +kernel
theorem dX8_truncate_5 : decode cX8_truncate 5 = .ok (.aload_n 0, 1) := by decide +kernel
theorem dX8_truncate_6 : decode cX8_truncate 6 = .ok (.getfield 20, 3) := by decide +kernel
theorem dX8_truncate_9 : decode cX8_truncate 9 = .ok (.getfield 49, 3) := by decide +kernel
theorem dX8_truncate_12 : decode cX8_truncate 12 = .ok (.if_icmp .le 13, 3) := by decide +kernel
theorem dX8_truncate_15 : decode cX8_truncate 15 = .ok (.new 66, 3) := by decide +kernel
theorem dX8_truncate_18 : decode cX8_truncate 18 = .ok (.dup, 1) := by decide +kernel
theorem dX8_truncate_19 : decode cX8_truncate 19 = .ok (.ldc 68, 2) := by decide +kernel
theorem dX8_truncate_21 : decode cX8_truncate 21 = .ok (.invokespecial 70, 3) := by decide +kernel
theorem dX8_truncate_24 : decode cX8_truncate 24 = .ok (.athrow, 1) := by decide +kernel
theorem dX8_truncate_25 : decode cX8_truncate 25 = .ok (.aload_n 0, 1) := by decide +kernel
theorem dX8_truncate_26 : decode cX8_truncate 26 = .ok (.getfield 20, 3) := by decide +kernel
theorem dX8_truncate_29 : decode cX8_truncate 29 = .ok (.iload_n 1, 1) := by decide +kernel
theorem dX8_truncate_30 : decode cX8_truncate 30 = .ok (.putfield 49, 3) := by decide +kernel
theorem dX8_truncate_33 : decode cX8_truncate 33 = .ok (.return_, 1) := by decide +kernel
theorem dX8_load_0 : decode cX8_load 0 = .ok (.aload_n 0, 1) := by decide +kernel
theorem dX8_load_1 : decode cX8_load 1 = .ok (.getfield 10, 3) := by decide +kernel
theorem dX8_load_4 : decode cX8_load 4 = .ok (.invokevirtual 71, 3) := by decide +kernel
theorem dX8_load_7 : decode cX8_load 7 = .ok (.istore_n 1, 1) := by decide +kernel
theorem dX8_load_8 : decode cX8_load 8 = .ok (.aload_n 0, 1) := by decide +kernel
theorem dX8_load_9 : decode cX8_load 9 = .ok (.getfield 20, 3) := by decide +kernel
theorem dX8_load_12 : decode cX8_load 12 = .ok (.iconst 0, 1) := by decide +kernel
theorem dX8_load_13 : decode cX8_load 13 = .ok (.putfield 49, 3) := by decide +kernel
theorem dX8_load_16 : decode cX8_load 16 = .ok (.iload_n 1, 1) := by decide +kernel
theorem dX8_load_17 : decode cX8_load 17 = .ok (.ifCond .ne 6, 3) := by decide +kernel
theorem dX8_load_20 : decode cX8_load 20 = .ok (.bipush (-4), 2) := by decide +kernel
theorem dX8_load_22 : decode cX8_load 22 = .ok (.ireturn, 1) := by decide +kernel
theorem dX8_load_23 : decode cX8_load 23 = .ok (.aload_n 0, 1) := by decide +kernel
theorem dX8_load_24 : decode cX8_load 24 = .ok (.invokevirtual 75, 3) := by decide +kernel
theorem dX8_load_27 : decode cX8_load 27 = .ok (.aload_n 0, 1) := by decide +kernel
theorem dX8_load_28 : decode cX8_load 28 = .ok (.getfield 31, 3) := by decide +kernel
theorem dX8_load_31 : decode cX8_load 31 = .ok (.aload_n 0, 1) := by decide +kernel
theorem dX8_load_32 : decode cX8_load 32 = .ok (.getfield 10, 3) := by decide +kernel
theorem dX8_load_35 : decode cX8_load 35 = .ok (.getfield 78, 3) := by decide +kernel
theorem dX8_load_38 : decode cX8_load 38 = .ok (.aload_n 0, 1) := by decide +kernel
theorem dX8_load_39 : decode cX8_load 39 = .ok (.getfield 10, 3) := by decide +kernel
theorem dX8_load_42 : decode cX8_load 42 = .ok (.getfield 82, 3) := by decide +kernel
theorem dX8_load_45 : decode cX8_load 45 = .ok (.invokevirtual 86, 3) := by decide +kernel
theorem dX8_load_48 : decode cX8_load 48 = .ok (.aload_n 0, 1) := by decide +kernel
theorem dX8_load_49 : decode cX8_load 49 = .ok (.getfield 10, 3) := by decide +kernel
theorem dX8_load_52 : decode cX8_load 52 = .ok (.getfield 90, 3) := by decide +kernel
theorem dX8_load_55 : decode cX8_load 55 = .ok (.iconst (-1), 1) := by decide +kernel
theorem dX8_load_56 : decode cX8_load 56 = .ok (.if_icmp .eq 32, 3) := by decide +kernel
theorem dX8_load_59 : decode cX8_load 59 = .ok (.aload_n 0, 1) := by decide +kernel
theorem dX8_load_60 : decode cX8_load 60 = .ok (.getfield 31, 3) := by decide +kernel
theorem dX8_load_63 : decode cX8_load 63 = .ok (.aload_n 0, 1) := by decide +kernel
theorem dX8_load_64 : decode cX8_load 64 = .ok (.getfield 10, 3) := by decide +kernel
theorem dX8_load_67 : decode cX8_load 67 = .ok (.getfield 90, 3) := by decide +kernel
theorem dX8_load_70 : decode cX8_load 70 = .ok (.invokevirtual 93, 3) := by decide +kernel
theorem dX8_load_73 : decode cX8_load 73 = .ok (.dup, 1) := by decide +kernel
theorem dX8_load_74 : decode cX8_load 74 = .ok (.getfield 97, 3) := by decide +kernel
theorem dX8_load_77 : decode cX8_load 77 = .ok (.aload_n 0, 1) := by decide +kernel
theorem dX8_load_78 : decode cX8_load 78 = .ok (.getfield 10, 3) := by decide +kernel
theorem dX8_load_81 : decode cX8_load 81 = .ok (.getfield 102, 3) := by decide +kernel
theorem dX8_load_84 : decode cX8_load 84 = .ok (.iadd, 1) := by decide +kernel
theorem dX8_load_85 : decode cX8_load 85 = .ok (.putfield 97, 3) := by decide +kernel
theorem dX8_load_88 : decode cX8_load 88 = .ok (.aload_n 0, 1) := by decide +kernel
theorem dX8_load_89 : decode cX8_load 89 = .ok (.getfield 31, 3) := by decide +kernel
theorem dX8_load_92 : decode cX8_load 92 = .ok (.getfield 105, 3) := by decide +kernel
theorem dX8_load_95 : decode cX8_load 95 = .ok (.getfield 106, 3) := by decide +kernel
theorem dX8_load_98 : decode cX8_load 98 = .ok (.ireturn, 1) := by decide +kernel
theorem dX8_errorCode_0 : decode cX8_errorCode 0 = .ok (.aload_n 0, 1) := by decide +kernel
theorem dX8_errorCode_1 : decode cX8_errorCode 1 = .ok (.getfield 10, 3) := by decide +kernel
theorem dX8_errorCode_4 : decode cX8_errorCode 4 = .ok (.getfield 111, 3) := by decide +kernel
theorem dX8_errorCode_7 : decode cX8_errorCode 7 = .ok (.ireturn, 1) := by decide +kernel
theorem dX8_property_0 : decode cX8_property 0 = .ok (.iload_n 1, 1) := by decide +kernel
theorem dX8_property_1 : decode cX8_property 1 = .ok (.tableswitch 193 0 11 #[63, 71, 79, 90, 101, 112, 123, 131, 139, 161, 169, 185], 63) := by decide +kernel
theorem dX8_property_64 : decode cX8_property 64 = .ok (.aload_n 0, 1) := by decide +kernel
theorem dX8_property_65 : decode cX8_property 65 = .ok (.getfield 31, 3) := by decide +kernel
theorem dX8_property_68 : decode cX8_property 68 = .ok (.getfield 117, 3) := by decide +kernel
theorem dX8_property_71 : decode cX8_property 71 = .ok (.ireturn, 1) := by decide +kernel
theorem dX8_property_72 : decode cX8_property 72 = .ok (.aload_n 0, 1) := by decide +kernel
theorem dX8_property_73 : decode cX8_property 73 = .ok (.getfield 31, 3) := by decide +kernel
theorem dX8_property_76 : decode cX8_property 76 = .ok (.getfield 120, 3) := by decide +kernel
theorem dX8_property_79 : decode cX8_property 79 = .ok (.ireturn, 1) := by decide +kernel
theorem dX8_property_80 : decode cX8_property 80 = .ok (.aload_n 0, 1) := by decide +kernel
theorem dX8_property_81 : decode cX8_property 81 = .ok (.getfield 31, 3) := by decide +kernel
theorem dX8_property_84 : decode cX8_property 84 = .ok (.getfield 105, 3) := by decide +kernel
theorem dX8_property_87 : decode cX8_property 87 = .ok (.getfield 106, 3) := by decide +kernel
theorem dX8_property_90 : decode cX8_property 90 = .ok (.ireturn, 1) := by decide +kernel
theorem dX8_property_91 : decode cX8_property 91 = .ok (.aload_n 0, 1) := by decide +kernel
theorem dX8_property_92 : decode cX8_property 92 = .ok (.getfield 31, 3) := by decide +kernel
theorem dX8_property_95 : decode cX8_property 95 = .ok (.getfield 105, 3) := by decide +kernel
theorem dX8_property_98 : decode cX8_property 98 = .ok (.getfield 123, 3) := by decide +kernel
theorem dX8_property_101 : decode cX8_property 101 = .ok (.ireturn, 1) := by decide +kernel
theorem dX8_property_102 : decode cX8_property 102 = .ok (.aload_n 0, 1) := by decide +kernel
theorem dX8_property_103 : decode cX8_property 103 = .ok (.getfield 31, 3) := by decide +kernel
theorem dX8_property_106 : decode cX8_property 106 = .ok (.getfield 105, 3) := by decide +kernel
theorem dX8_property_109 : decode cX8_property 109 = .ok (.getfield 126, 3) := by decide +kernel
theorem dX8_property_112 : decode cX8_property 112 = .ok (.ireturn, 1) := by decide +kernel
theorem dX8_property_113 : decode cX8_property 113 = .ok (.aload_n 0, 1) := by decide +kernel
theorem dX8_property_114 : decode cX8_property 114 = .ok (.getfield 31, 3) := by decide +kernel
theorem dX8_property_117 : decode cX8_property 117 = .ok (.getfield 105, 3) := by decide +kernel
theorem dX8_property_120 : decode cX8_property 120 = .ok (.getfield 129, 3) := by decide +kernel
theorem dX8_property_123 : decode cX8_property 123 = .ok (.ireturn, 1) := by decide +kernel
theorem dX8_property_124 : decode cX8_property 124 = .ok (.aload_n 0, 1) := by decide +kernel
theorem dX8_property_125 : decode cX8_property 125 = .ok (.getfield 31, 3) := by decide +kernel
theorem dX8_property_128 : decode cX8_property 128 = .ok (.getfield 132, 3) := by decide +kernel
theorem dX8_property_131 : decode cX8_property 131 = .ok (.ireturn, 1) := by decide +kernel
theorem dX8_property_132 : decode cX8_property 132 = .ok (.aload_n 0, 1) := by decide +kernel
theorem dX8_property_133 : decode cX8_property 133 = .ok (.getfield 31, 3) := by decide +kernel
theorem dX8_property_136 : decode cX8_property 136 = .ok (.getfield 135, 3) := by decide +kernel
theorem dX8_property_139 : decode cX8_property 139 = .ok (.ireturn, 1) := by decide +kernel
theorem dX8_property_140 : decode cX8_property 140 = .ok (.aload_n 0, 1) := by decide +kernel
theorem dX8_property_141 : decode cX8_property 141 = .ok (.getfield 31, 3) := by decide +kernel
theorem dX8_property_144 : decode cX8_property 144 = .ok (.getfield 138, 3) := by decide +kernel
theorem dX8_property_147 : decode cX8_property 147 = .ok (.getfield 142, 3) := by decide +kernel
theorem dX8_property_150 : decode cX8_property 150 = .ok (.aload_n 0, 1) := by decide +kernel
theorem dX8_property_151 : decode cX8_property 151 = .ok (.getfield 31, 3) := by decide +kernel
theorem dX8_property_154 : decode cX8_property 154 = .ok (.getfield 145, 3) := by decide +kernel
theorem dX8_property_157 : decode cX8_property 157 = .ok (.getfield 142, 3) := by decide +kernel
theorem dX8_property_160 : decode cX8_property 160 = .ok (.iadd, 1) := by decide +kernel
theorem dX8_property_161 : decode cX8_property 161 = .ok (.ireturn, 1) := by decide +kernel
theorem dX8_property_162 : decode cX8_property 162 = .ok (.aload_n 0, 1) := by decide +kernel
theorem dX8_property_163 : decode cX8_property 163 = .ok (.getfield 31, 3) := by decide +kernel
theorem dX8_property_166 : decode cX8_property 166 = .ok (.getfield 148, 3) := by decide +kernel
theorem dX8_property_169 : decode cX8_property 169 = .ok (.ireturn, 1) := by decide +kernel
theorem dX8_property_170 : decode cX8_property 170 = .ok (.aload_n 0, 1) := by decide +kernel
theorem dX8_property_171 : decode cX8_property 171 = .ok (.getfield 31, 3) := by decide +kernel
theorem dX8_property_174 : decode cX8_property 174 = .ok (.getfield 151, 3) := by decide +kernel
theorem dX8_property_177 : decode cX8_property 177 = .ok (.ifCond .eq 7, 3) := by decide +kernel
theorem dX8_property_180 : decode cX8_property 180 = .ok (.iconst 1, 1) := by decide +kernel
theorem dX8_property_181 : decode cX8_property 181 = .ok (.goto 4, 3) := by decide +kernel
theorem dX8_property_184 : decode cX8_property 184 = .ok (.iconst 0, 1) := by decide +kernel
theorem dX8_property_185 : decode cX8_property 185 = .ok (.ireturn, 1) := by decide +kernel
theorem dX8_property_186 : decode cX8_property 186 = .ok (.aload_n 0, 1) := by decide +kernel
theorem dX8_property_187 : decode cX8_property 187 = .ok (.getfield 31, 3) := by decide +kernel
theorem dX8_property_190 : decode cX8_property 190 = .ok (.getfield 152, 3) := by decide +kernel
theorem dX8_property_193 : decode cX8_property 193 = .ok (.ireturn, 1) := by decide +kernel
theorem dX8_property_194 : decode cX8_property 194 = .ok (.new 66, 3) := by decide +kernel
theorem dX8_property_197 : decode cX8_property 197 = .ok (.dup, 1) := by decide +kernel
theorem dX8_property_198 : decode cX8_property 198 = .ok (.ldc 155, 2) := by decide +kernel
theorem dX8_property_200 : decode cX8_property 200 = .ok (.invokespecial 70, 3) := by decide +kernel
theorem dX8_property_203 : decode cX8_property 203 = .ok (.athrow, 1) := by decide +kernel
theorem dX8_period_0 : decode cX8_period 0 = .ok (.aload_n 0, 1) := by decide +kernel
theorem dX8_period_1 : decode cX8_period 1 = .ok (.iload_n 1, 1) := by decide +kernel
theorem dX8_period_2 : decode cX8_period 2 = .ok (.invokevirtual 157, 3) := by decide +kernel
theorem dX8_period_5 : decode cX8_period 5 = .ok (.iload_n 2, 1) := by decide +kernel
theorem dX8_period_6 : decode cX8_period 6 = .ok (.ifCond .lt 8, 3) := by decide +kernel
theorem dX8_period_9 : decode cX8_period 9 = .ok (.iload_n 2, 1) := by decide +kernel
theorem dX8_period_10 : decode cX8_period 10 = .ok (.iconst 5, 1) := by decide +kernel
theorem dX8_period_11 : decode cX8_period 11 = .ok (.if_icmp .lt 13, 3) := by decide +kernel
theorem dX8_period_14 : decode cX8_period 14 = .ok (.new 66, 3) := by decide +kernel
theorem dX8_period_17 : decode cX8_period 17 = .ok (.dup, 1) := by decide +kernel
theorem dX8_period_18 : decode cX8_period 18 = .ok (.ldc 155, 2) := by decide +kernel
theorem dX8_period_20 : decode cX8_period 20 = .ok (.invokespecial 70, 3) := by decide +kernel
theorem dX8_period_23 : decode cX8_period 23 = .ok (.athrow, 1) := by decide +kernel
theorem dX8_period_24 : decode cX8_period 24 = .ok (.aload_n 0, 1) := by decide +kernel
theorem dX8_period_25 : decode cX8_period 25 = .ok (.getfield 31, 3) := by decide +kernel
theorem dX8_period_28 : decode cX8_period 28 = .ok (.getfield 105, 3) := by decide +kernel
theorem dX8_period_31 : decode cX8_period 31 = .ok (.iload_n 1, 1) := by decide +kernel
theorem dX8_period_32 : decode cX8_period 32 = .ok (.iload_n 2, 1) := by decide +kernel
theorem dX8_period_33 : decode cX8_period 33 = .ok (.invokevirtual 160, 3) := by decide +kernel
theorem dX8_period_36 : decode cX8_period 36 = .ok (.ireturn, 1) := by decide +kernel
theorem dX8_side_0 : decode cX8_side 0 = .ok (.aload_n 0, 1) := by decide +kernel
theorem dX8_side_1 : decode cX8_side 1 = .ok (.iload_n 1, 1) := by decide +kernel
theorem dX8_side_2 : decode cX8_side 2 = .ok (.invokevirtual 164, 3) := by decide +kernel
theorem dX8_side_5 : decode cX8_side 5 = .ok (.aload_n 0, 1) := by decide +kernel
theorem dX8_side_6 : decode cX8_side 6 = .ok (.getfield 31, 3) := by decide +kernel
theorem dX8_side_9 : decode cX8_side 9 = .ok (.iload_n 1, 1) := by decide +kernel
theorem dX8_side_10 : decode cX8_side 10 = .ok (.invokevirtual 93, 3) := by decide +kernel
theorem dX8_side_13 : decode cX8_side 13 = .ok (.astore_n 3, 1) := by decide +kernel
theorem dX8_side_14 : decode cX8_side 14 = .ok (.iload_n 2, 1) := by decide +kernel
theorem dX8_side_15 : decode cX8_side 15 = .ok (.tableswitch 152 0 11 #[61, 66, 71, 76, 81, 86, 99, 104, 109, 122, 135, 140], 61) := by decide +kernel
theorem dX8_side_76 : decode cX8_side 76 = .ok (.aload_n 3, 1) := by decide +kernel
theorem dX8_side_77 : decode cX8_side 77 = .ok (.getfield 97, 3) := by decide +kernel
theorem dX8_side_80 : decode cX8_side 80 = .ok (.ireturn, 1) := by decide +kernel
theorem dX8_side_81 : decode cX8_side 81 = .ok (.aload_n 3, 1) := by decide +kernel
theorem dX8_side_82 : decode cX8_side 82 = .ok (.getfield 142, 3) := by decide +kernel
theorem dX8_side_85 : decode cX8_side 85 = .ok (.ireturn, 1) := by decide +kernel
theorem dX8_side_86 : decode cX8_side 86 = .ok (.aload_n 3, 1) := by decide +kernel
theorem dX8_side_87 : decode cX8_side 87 = .ok (.getfield 167, 3) := by decide +kernel
theorem dX8_side_90 : decode cX8_side 90 = .ok (.ireturn, 1) := by decide +kernel
theorem dX8_side_91 : decode cX8_side 91 = .ok (.aload_n 3, 1) := by decide +kernel
theorem dX8_side_92 : decode cX8_side 92 = .ok (.getfield 170, 3) := by decide +kernel
theorem dX8_side_95 : decode cX8_side 95 = .ok (.ireturn, 1) := by decide +kernel
theorem dX8_side_96 : decode cX8_side 96 = .ok (.aload_n 3, 1) := by decide +kernel
theorem dX8_side_97 : decode cX8_side 97 = .ok (.getfield 173, 3) := by decide +kernel
theorem dX8_side_100 : decode cX8_side 100 = .ok (.ireturn, 1) := by decide +kernel
theorem dX8_side_101 : decode cX8_side 101 = .ok (.aload_n 3, 1) := by decide +kernel
theorem dX8_side_102 : decode cX8_side 102 = .ok (.getfield 174, 3) := by decide +kernel
theorem dX8_side_105 : decode cX8_side 105 = .ok (.ifCond .eq 7, 3) := by decide +kernel
theorem dX8_side_108 : decode cX8_side 108 = .ok (.iconst 1, 1) := by decide +kernel
theorem dX8_side_109 : decode cX8_side 109 = .ok (.goto 4, 3) := by decide +kernel
theorem dX8_side_112 : decode cX8_side 112 = .ok (.iconst 0, 1) := by decide +kernel
theorem dX8_side_113 : decode cX8_side 113 = .ok (.ireturn, 1) := by decide +kernel
theorem dX8_side_114 : decode cX8_side 114 = .ok (.aload_n 3, 1) := by decide +kernel
theorem dX8_side_115 : decode cX8_side 115 = .ok (.getfield 177, 3) := by decide +kernel
theorem dX8_side_118 : decode cX8_side 118 = .ok (.ireturn, 1) := by decide +kernel
theorem dX8_side_119 : decode cX8_side 119 = .ok (.aload_n 3, 1) := by decide +kernel
theorem dX8_side_120 : decode cX8_side 120 = .ok (.getfield 180, 3) := by decide +kernel
theorem dX8_side_123 : decode cX8_side 123 = .ok (.ireturn, 1) := by decide +kernel
theorem dX8_side_124 : decode cX8_side 124 = .ok (.aload_n 3, 1) := by decide +kernel
theorem dX8_side_125 : decode cX8_side 125 = .ok (.getfield 183, 3) := by decide +kernel
theorem dX8_side_128 : decode cX8_side 128 = .ok (.ifCond .eq 7, 3) := by decide +kernel
theorem dX8_side_131 : decode cX8_side 131 = .ok (.iconst 1, 1) := by decide +kernel
theorem dX8_side_132 : decode cX8_side 132 = .ok (.goto 4, 3) := by decide +kernel
theorem dX8_side_135 : decode cX8_side 135 = .ok (.iconst 0, 1) := by decide +kernel
theorem dX8_side_136 : decode cX8_side 136 = .ok (.ireturn, 1) := by decide +kernel
theorem dX8_side_137 : decode cX8_side 137 = .ok (.aload_n 3, 1) := by decide +kernel
theorem dX8_side_138 : decode cX8_side 138 = .ok (.getfield 186, 3) := by decide +kernel
theorem dX8_side_141 : decode cX8_side 141 = .ok (.ifCond .eq 7, 3) := by decide +kernel
theorem dX8_side_144 : decode cX8_side 144 = .ok (.iconst 1, 1) := by decide +kernel
theorem dX8_side_145 : decode cX8_side 145 = .ok (.goto 4, 3) := by decide +kernel
theorem dX8_side_148 : decode cX8_side 148 = .ok (.iconst 0, 1) := by decide +kernel
theorem dX8_side_149 : decode cX8_side 149 = .ok (.ireturn, 1) := by decide +kernel
theorem dX8_side_150 : decode cX8_side 150 = .ok (.aload_n 3, 1) := by decide +kernel
theorem dX8_side_151 : decode cX8_side 151 = .ok (.getfield 189, 3) := by decide +kernel
theorem dX8_side_154 : decode cX8_side 154 = .ok (.ireturn, 1) := by decide +kernel
theorem dX8_side_155 : decode cX8_side 155 = .ok (.aload_n 3, 1) := by decide +kernel
theorem dX8_side_156 : decode cX8_side 156 = .ok (.aload_n 0, 1) := by decide +kernel
theorem dX8_side_157 : decode cX8_side 157 = .ok (.getfield 31, 3) := by decide +kernel
theorem dX8_side_160 : decode cX8_side 160 = .ok (.getfield 105, 3) := by decide +kernel
theorem dX8_side_163 : decode cX8_side 163 = .ok (.invokevirtual 192, 3) := by decide +kernel
theorem dX8_side_166 : decode cX8_side 166 = .ok (.ireturn, 1) := by decide +kernel
theorem dX8_side_167 : decode cX8_side 167 = .ok (.new 66, 3) := by decide +kernel
theorem dX8_side_170 : decode cX8_side 170 = .ok (.dup, 1) := by decide +kernel
theorem dX8_side_171 : decode cX8_side 171 = .ok (.ldc 155, 2) := by decide +kernel
theorem dX8_side_173 : decode cX8_side 173 = .ok (.invokespecial 70, 3) := by decide +kernel
theorem dX8_side_176 : decode cX8_side 176 = .ok (.athrow, 1) := by decide +kernel
theorem dX8_logged_0 : decode cX8_logged 0 = .ok (.iload_n 1, 1) := by decide +kernel
theorem dX8_logged_1 : decode cX8_logged 1 = .ok (.ifCond .lt 17, 3) := by decide +kernel
theorem dX8_logged_4 : decode cX8_logged 4 = .ok (.iload_n 1, 1) := by decide +kernel
theorem dX8_logged_5 : decode cX8_logged 5 = .ok (.aload_n 0, 1) := by decide +kernel
theorem dX8_logged_6 : decode cX8_logged 6 = .ok (.getfield 31, 3) := by decide +kernel
theorem dX8_logged_9 : decode cX8_logged 9 = .ok (.getfield 196, 3) := by decide +kernel
theorem dX8_logged_12 : decode cX8_logged 12 = .ok (.getfield 200, 3) := by decide +kernel
theorem dX8_logged_15 : decode cX8_logged 15 = .ok (.if_icmp .lt 13, 3) := by decide +kernel
theorem dX8_logged_18 : decode cX8_logged 18 = .ok (.new 205, 3) := by decide +kernel
theorem dX8_logged_21 : decode cX8_logged 21 = .ok (.dup, 1) := by decide +kernel
theorem dX8_logged_22 : decode cX8_logged 22 = .ok (.ldc 207, 2) := by decide +kernel
theorem dX8_logged_24 : decode cX8_logged 24 = .ok (.invokespecial 209, 3) := by decide +kernel
theorem dX8_logged_27 : decode cX8_logged 27 = .ok (.athrow, 1) := by decide +kernel
theorem dX8_logged_28 : decode cX8_logged 28 = .ok (.iload_n 2, 1) := by decide +kernel
theorem dX8_logged_29 : decode cX8_logged 29 = .ok (.ifCond .lt 9, 3) := by decide +kernel
theorem dX8_logged_32 : decode cX8_logged 32 = .ok (.iload_n 2, 1) := by decide +kernel
theorem dX8_logged_33 : decode cX8_logged 33 = .ok (.bipush 6, 2) := by decide +kernel
theorem dX8_logged_35 : decode cX8_logged 35 = .ok (.if_icmp .lt 13, 3) := by decide +kernel
theorem dX8_logged_38 : decode cX8_logged 38 = .ok (.new 66, 3) := by decide +kernel
theorem dX8_logged_41 : decode cX8_logged 41 = .ok (.dup, 1) := by decide +kernel
theorem dX8_logged_42 : decode cX8_logged 42 = .ok (.ldc 155, 2) := by decide +kernel
theorem dX8_logged_44 : decode cX8_logged 44 = .ok (.invokespecial 70, 3) := by decide +kernel
theorem dX8_logged_47 : decode cX8_logged 47 = .ok (.athrow, 1) := by decide +kernel
theorem dX8_logged_48 : decode cX8_logged 48 = .ok (.aload_n 0, 1) := by decide +kernel
theorem dX8_logged_49 : decode cX8_logged 49 = .ok (.getfield 31, 3) := by decide +kernel
theorem dX8_logged_52 : decode cX8_logged 52 = .ok (.getfield 196, 3) := by decide +kernel
theorem dX8_logged_55 : decode cX8_logged 55 = .ok (.iload_n 1, 1) := by decide +kernel
theorem dX8_logged_56 : decode cX8_logged 56 = .ok (.iload_n 2, 1) := by decide +kernel
theorem dX8_logged_57 : decode cX8_logged 57 = .ok (.invokevirtual 210, 3) := by decide +kernel
theorem dX8_logged_60 : decode cX8_logged 60 = .ok (.ireturn, 1) := by decide +kernel
theorem dX8_ahead_0 : decode cX8_ahead 0 = .ok (.aload_n 0, 1) := by decide +kernel
theorem dX8_ahead_1 : decode cX8_ahead 1 = .ok (.getfield 31, 3) := by decide +kernel
theorem dX8_ahead_4 : decode cX8_ahead 4 = .ok (.invokevirtual 221, 3) := by decide +kernel
theorem dX8_ahead_7 : decode cX8_ahead 7 = .ok (.ireturn, 1) := by decide +kernel
theorem dX8_spent_0 : decode cX8_spent 0 = .ok (.aload_n 0, 1) := by decide +kernel
theorem dX8_spent_1 : decode cX8_spent 1 = .ok (.iload_n 1, 1) := by decide +kernel
theorem dX8_spent_2 : decode cX8_spent 2 = .ok (.invokevirtual 164, 3) := by decide +kernel
theorem dX8_spent_5 : decode cX8_spent 5 = .ok (.aload_n 0, 1) := by decide +kernel
theorem dX8_spent_6 : decode cX8_spent 6 = .ok (.iload_n 2, 1) := by decide +kernel
theorem dX8_spent_7 : decode cX8_spent 7 = .ok (.invokevirtual 157, 3) := by decide +kernel
theorem dX8_spent_10 : decode cX8_spent 10 = .ok (.aload_n 0, 1) := by decide +kernel
theorem dX8_spent_11 : decode cX8_spent 11 = .ok (.getfield 31, 3) := by decide +kernel
theorem dX8_spent_14 : decode cX8_spent 14 = .ok (.iload_n 1, 1) := by decide +kernel
theorem dX8_spent_15 : decode cX8_spent 15 = .ok (.invokevirtual 93, 3) := by decide +kernel
theorem dX8_spent_18 : decode cX8_spent 18 = .ok (.getfield 227, 3) := by decide +kernel
theorem dX8_spent_21 : decode cX8_spent 21 = .ok (.iload_n 2, 1) := by decide +kernel
theorem dX8_spent_22 : decode cX8_spent 22 = .ok (.invokestatic 231, 3) := by decide +kernel
theorem dX8_spent_25 : decode cX8_spent 25 = .ok (.ireturn, 1) := by decide +kernel
theorem dX8_start_0 : decode cX8_start 0 = .ok (.aload_n 0, 1) := by decide +kernel
theorem dX8_start_1 : decode cX8_start 1 = .ok (.getfield 31, 3) := by decide +kernel
theorem dX8_start_4 : decode cX8_start 4 = .ok (.getfield 117, 3) := by decide +kernel
theorem dX8_start_7 : decode cX8_start 7 = .ok (.ifCond .eq 14, 3) := by decide +kernel
theorem dX8_start_10 : decode cX8_start 10 = .ok (.new 55, 3) := by decide +kernel
theorem dX8_start_13 : decode cX8_start 13 = .ok (.dup, 1) := by decide +kernel
theorem dX8_start_14 : decode cX8_start 14 = .ok (.ldc_w 304, 3) := by decide +kernel
theorem dX8_start_17 : decode cX8_start 17 = .ok (.invokespecial 59, 3) := by decide +kernel
theorem dX8_start_20 : decode cX8_start 20 = .ok (.athrow, 1) := by decide +kernel
theorem dX8_start_21 : decode cX8_start 21 = .ok (.aload_n 0, 1) := by decide +kernel
theorem dX8_start_22 : decode cX8_start 22 = .ok (.invokevirtual 75, 3) := by decide +kernel
theorem dX8_start_25 : decode cX8_start 25 = .ok (.aload_n 0, 1) := by decide +kernel
theorem dX8_start_26 : decode cX8_start 26 = .ok (.getfield 31, 3) := by decide +kernel
theorem dX8_start_29 : decode cX8_start 29 = .ok (.iconst 1, 1) := by decide +kernel
theorem dX8_start_30 : decode cX8_start 30 = .ok (.putfield 117, 3) := by decide +kernel
theorem dX8_start_33 : decode cX8_start 33 = .ok (.aload_n 0, 1) := by decide +kernel
theorem dX8_start_34 : decode cX8_start 34 = .ok (.getfield 31, 3) := by decide +kernel
theorem dX8_start_37 : decode cX8_start 37 = .ok (.getfield 120, 3) := by decide +kernel
theorem dX8_start_40 : decode cX8_start 40 = .ok (.ireturn, 1) := by decide +kernel
theorem dX8_tick_0 : decode cX8_tick 0 = .ok (.iload_n 1, 1) := by decide +kernel
theorem dX8_tick_1 : decode cX8_tick 1 = .ok (.iconst 1, 1) := by decide +kernel
theorem dX8_tick_2 : decode cX8_tick 2 = .ok (.if_icmp .lt 10, 3) := by decide +kernel
theorem dX8_tick_5 : decode cX8_tick 5 = .ok (.iload_n 1, 1) := by decide +kernel
theorem dX8_tick_6 : decode cX8_tick 6 = .ok (.sipush 9999, 3) := by decide +kernel
theorem dX8_tick_9 : decode cX8_tick 9 = .ok (.if_icmp .le 14, 3) := by decide +kernel
theorem dX8_tick_12 : decode cX8_tick 12 = .ok (.new 66, 3) := by decide +kernel
theorem dX8_tick_15 : decode cX8_tick 15 = .ok (.dup, 1) := by decide +kernel
theorem dX8_tick_16 : decode cX8_tick 16 = .ok (.ldc_w 295, 3) := by decide +kernel
theorem dX8_tick_19 : decode cX8_tick 19 = .ok (.invokespecial 70, 3) := by decide +kernel
theorem dX8_tick_22 : decode cX8_tick 22 = .ok (.athrow, 1) := by decide +kernel
theorem dX8_tick_23 : decode cX8_tick 23 = .ok (.aload_n 0, 1) := by decide +kernel
theorem dX8_tick_24 : decode cX8_tick 24 = .ok (.invokevirtual 75, 3) := by decide +kernel
theorem dX8_tick_27 : decode cX8_tick 27 = .ok (.aload_n 0, 1) := by decide +kernel
theorem dX8_tick_28 : decode cX8_tick 28 = .ok (.getfield 31, 3) := by decide +kernel
theorem dX8_tick_31 : decode cX8_tick 31 = .ok (.getfield 117, 3) := by decide +kernel
theorem dX8_tick_34 : decode cX8_tick 34 = .ok (.iconst 1, 1) := by decide +kernel
theorem dX8_tick_35 : decode cX8_tick 35 = .ok (.if_icmp .ne 11, 3) := by decide +kernel
theorem dX8_tick_38 : decode cX8_tick 38 = .ok (.aload_n 0, 1) := by decide +kernel
theorem dX8_tick_39 : decode cX8_tick 39 = .ok (.getfield 31, 3) := by decide +kernel
theorem dX8_tick_42 : decode cX8_tick 42 = .ok (.iload_n 1, 1) := by decide +kernel
theorem dX8_tick_43 : decode cX8_tick 43 = .ok (.invokevirtual 306, 3) := by decide +kernel
theorem dX8_tick_46 : decode cX8_tick 46 = .ok (.aload_n 0, 1) := by decide +kernel
theorem dX8_tick_47 : decode cX8_tick 47 = .ok (.getfield 31, 3) := by decide +kernel
theorem dX8_tick_50 : decode cX8_tick 50 = .ok (.invokevirtual 275, 3) := by decide +kernel
theorem dX8_tick_53 : decode cX8_tick 53 = .ok (.getfield 97, 3) := by decide +kernel
theorem dX8_tick_56 : decode cX8_tick 56 = .ok (.ireturn, 1) := by decide +kernel
theorem dX8_move_0 : decode cX8_move 0 = .ok (.aload_n 0, 1) := by decide +kernel
theorem dX8_move_1 : decode cX8_move 1 = .ok (.getfield 31, 3) := by decide +kernel
theorem dX8_move_4 : decode cX8_move 4 = .ok (.getfield 117, 3) := by decide +kernel
theorem dX8_move_7 : decode cX8_move 7 = .ok (.iconst 1, 1) := by decide +kernel
theorem dX8_move_8 : decode cX8_move 8 = .ok (.if_icmp .eq 14, 3) := by decide +kernel
theorem dX8_move_11 : decode cX8_move 11 = .ok (.new 55, 3) := by decide +kernel
theorem dX8_move_14 : decode cX8_move 14 = .ok (.dup, 1) := by decide +kernel
theorem dX8_move_15 : decode cX8_move 15 = .ok (.ldc_w 309, 3) := by decide +kernel
theorem dX8_move_18 : decode cX8_move 18 = .ok (.invokespecial 59, 3) := by decide +kernel
theorem dX8_move_21 : decode cX8_move 21 = .ok (.athrow, 1) := by decide +kernel
theorem dX8_move_22 : decode cX8_move 22 = .ok (.aload_n 0, 1) := by decide +kernel
theorem dX8_move_23 : decode cX8_move 23 = .ok (.invokevirtual 75, 3) := by decide +kernel
theorem dX8_move_26 : decode cX8_move 26 = .ok (.aload_n 0, 1) := by decide +kernel
theorem dX8_move_27 : decode cX8_move 27 = .ok (.getfield 31, 3) := by decide +kernel
theorem dX8_move_30 : decode cX8_move 30 = .ok (.invokevirtual 311, 3) := by decide +kernel
theorem dX8_move_33 : decode cX8_move 33 = .ok (.ireturn, 1) := by decide +kernel
theorem dX8_pause_0 : decode cX8_pause 0 = .ok (.aload_n 0, 1) := by decide +kernel
theorem dX8_pause_1 : decode cX8_pause 1 = .ok (.getfield 31, 3) := by decide +kernel
theorem dX8_pause_4 : decode cX8_pause 4 = .ok (.getfield 117, 3) := by decide +kernel
theorem dX8_pause_7 : decode cX8_pause 7 = .ok (.iconst 1, 1) := by decide +kernel
theorem dX8_pause_8 : decode cX8_pause 8 = .ok (.if_icmp .eq 14, 3) := by decide +kernel
theorem dX8_pause_11 : decode cX8_pause 11 = .ok (.new 55, 3) := by decide +kernel
theorem dX8_pause_14 : decode cX8_pause 14 = .ok (.dup, 1) := by decide +kernel
theorem dX8_pause_15 : decode cX8_pause 15 = .ok (.ldc_w 309, 3) := by decide +kernel
theorem dX8_pause_18 : decode cX8_pause 18 = .ok (.invokespecial 59, 3) := by decide +kernel
theorem dX8_pause_21 : decode cX8_pause 21 = .ok (.athrow, 1) := by decide +kernel
theorem dX8_pause_22 : decode cX8_pause 22 = .ok (.aload_n 0, 1) := by decide +kernel
theorem dX8_pause_23 : decode cX8_pause 23 = .ok (.invokevirtual 75, 3) := by decide +kernel
theorem dX8_pause_26 : decode cX8_pause 26 = .ok (.aload_n 0, 1) := by decide +kernel
theorem dX8_pause_27 : decode cX8_pause 27 = .ok (.getfield 31, 3) := by decide +kernel
theorem dX8_pause_30 : decode cX8_pause 30 = .ok (.iconst 2, 1) := by decide +kernel
theorem dX8_pause_31 : decode cX8_pause 31 = .ok (.putfield 117, 3) := by decide +kernel
theorem dX8_pause_34 : decode cX8_pause 34 = .ok (.aload_n 0, 1) := by decide +kernel
theorem dX8_pause_35 : decode cX8_pause 35 = .ok (.getfield 31, 3) := by decide +kernel
theorem dX8_pause_38 : decode cX8_pause 38 = .ok (.getfield 120, 3) := by decide +kernel
theorem dX8_pause_41 : decode cX8_pause 41 = .ok (.ireturn, 1) := by decide +kernel
theorem dX8_proceed_0 : decode cX8_proceed 0 = .ok (.aload_n 0, 1) := by decide +kernel
theorem dX8_proceed_1 : decode cX8_proceed 1 = .ok (.getfield 31, 3) := by decide +kernel
theorem dX8_proceed_4 : decode cX8_proceed 4 = .ok (.getfield 117, 3) := by decide +kernel
theorem dX8_proceed_7 : decode cX8_proceed 7 = .ok (.iconst 2, 1) := by decide +kernel
theorem dX8_proceed_8 : decode cX8_proceed 8 = .ok (.if_icmp .eq 14, 3) := by decide +kernel
theorem dX8_proceed_11 : decode cX8_proceed 11 = .ok (.new 55, 3) := by decide +kernel
theorem dX8_proceed_14 : decode cX8_proceed 14 = .ok (.dup, 1) := by decide +kernel
theorem dX8_proceed_15 : decode cX8_proceed 15 = .ok (.ldc_w 314, 3) := by decide +kernel
theorem dX8_proceed_18 : decode cX8_proceed 18 = .ok (.invokespecial 59, 3) := by decide +kernel
theorem dX8_proceed_21 : decode cX8_proceed 21 = .ok (.athrow, 1) := by decide +kernel
theorem dX8_proceed_22 : decode cX8_proceed 22 = .ok (.aload_n 0, 1) := by decide +kernel
theorem dX8_proceed_23 : decode cX8_proceed 23 = .ok (.invokevirtual 75, 3) := by decide +kernel
theorem dX8_proceed_26 : decode cX8_proceed 26 = .ok (.aload_n 0, 1) := by decide +kernel
theorem dX8_proceed_27 : decode cX8_proceed 27 = .ok (.getfield 31, 3) := by decide +kernel
theorem dX8_proceed_30 : decode cX8_proceed 30 = .ok (.iconst 1, 1) := by decide +kernel
theorem dX8_proceed_31 : decode cX8_proceed 31 = .ok (.putfield 117, 3) := by decide +kernel
theorem dX8_proceed_34 : decode cX8_proceed 34 = .ok (.aload_n 0, 1) := by decide +kernel
theorem dX8_proceed_35 : decode cX8_proceed 35 = .ok (.getfield 31, 3) := by decide +kernel
theorem dX8_proceed_38 : decode cX8_proceed 38 = .ok (.getfield 120, 3) := by decide +kernel
theorem dX8_proceed_41 : decode cX8_proceed 41 = .ok (.ireturn, 1) := by decide +kernel
theorem dX8_seal_0 : decode cX8_seal 0 = .ok (.aload_n 0, 1) := by decide +kernel
theorem dX8_seal_1 : decode cX8_seal 1 = .ok (.getfield 31, 3) := by decide +kernel
theorem dX8_seal_4 : decode cX8_seal 4 = .ok (.invokevirtual 279, 3) := by decide +kernel
theorem dX8_seal_7 : decode cX8_seal 7 = .ok (.ifCond .eq 14, 3) := by decide +kernel
theorem dX8_seal_10 : decode cX8_seal 10 = .ok (.new 55, 3) := by decide +kernel
theorem dX8_seal_13 : decode cX8_seal 13 = .ok (.dup, 1) := by decide +kernel
theorem dX8_seal_14 : decode cX8_seal 14 = .ok (.ldc_w 316, 3) := by decide +kernel
theorem dX8_seal_17 : decode cX8_seal 17 = .ok (.invokespecial 59, 3) := by decide +kernel
theorem dX8_seal_20 : decode cX8_seal 20 = .ok (.athrow, 1) := by decide +kernel
theorem dX8_seal_21 : decode cX8_seal 21 = .ok (.aload_n 0, 1) := by decide +kernel
theorem dX8_seal_22 : decode cX8_seal 22 = .ok (.invokevirtual 75, 3) := by decide +kernel
theorem dX8_seal_25 : decode cX8_seal 25 = .ok (.aload_n 0, 1) := by decide +kernel
theorem dX8_seal_26 : decode cX8_seal 26 = .ok (.getfield 31, 3) := by decide +kernel
theorem dX8_seal_29 : decode cX8_seal 29 = .ok (.iconst 3, 1) := by decide +kernel
theorem dX8_seal_30 : decode cX8_seal 30 = .ok (.putfield 117, 3) := by decide +kernel
theorem dX8_seal_33 : decode cX8_seal 33 = .ok (.aload_n 0, 1) := by decide +kernel
theorem dX8_seal_34 : decode cX8_seal 34 = .ok (.getfield 31, 3) := by decide +kernel
theorem dX8_seal_37 : decode cX8_seal 37 = .ok (.getfield 120, 3) := by decide +kernel
theorem dX8_seal_40 : decode cX8_seal 40 = .ok (.ireturn, 1) := by decide +kernel
theorem dX8_open_0 : decode cX8_open 0 = .ok (.aload_n 0, 1) := by decide +kernel
theorem dX8_open_1 : decode cX8_open 1 = .ok (.getfield 31, 3) := by decide +kernel
theorem dX8_open_4 : decode cX8_open 4 = .ok (.getfield 117, 3) := by decide +kernel
theorem dX8_open_7 : decode cX8_open 7 = .ok (.iconst 3, 1) := by decide +kernel
theorem dX8_open_8 : decode cX8_open 8 = .ok (.if_icmp .eq 14, 3) := by decide +kernel
theorem dX8_open_11 : decode cX8_open 11 = .ok (.new 55, 3) := by decide +kernel
theorem dX8_open_14 : decode cX8_open 14 = .ok (.dup, 1) := by decide +kernel
theorem dX8_open_15 : decode cX8_open 15 = .ok (.ldc_w 318, 3) := by decide +kernel
theorem dX8_open_18 : decode cX8_open 18 = .ok (.invokespecial 59, 3) := by decide +kernel
theorem dX8_open_21 : decode cX8_open 21 = .ok (.athrow, 1) := by decide +kernel
theorem dX8_open_22 : decode cX8_open 22 = .ok (.aload_n 0, 1) := by decide +kernel
theorem dX8_open_23 : decode cX8_open 23 = .ok (.invokevirtual 75, 3) := by decide +kernel
theorem dX8_open_26 : decode cX8_open 26 = .ok (.aload_n 0, 1) := by decide +kernel
theorem dX8_open_27 : decode cX8_open 27 = .ok (.getfield 31, 3) := by decide +kernel
theorem dX8_open_30 : decode cX8_open 30 = .ok (.iconst 1, 1) := by decide +kernel
theorem dX8_open_31 : decode cX8_open 31 = .ok (.putfield 117, 3) := by decide +kernel
theorem dX8_open_34 : decode cX8_open 34 = .ok (.aload_n 0, 1) := by decide +kernel
theorem dX8_open_35 : decode cX8_open 35 = .ok (.getfield 31, 3) := by decide +kernel
theorem dX8_open_38 : decode cX8_open 38 = .ok (.iconst 0, 1) := by decide +kernel
theorem dX8_open_39 : decode cX8_open 39 = .ok (.putfield 132, 3) := by decide +kernel
theorem dX8_open_42 : decode cX8_open 42 = .ok (.aload_n 0, 1) := by decide +kernel
theorem dX8_open_43 : decode cX8_open 43 = .ok (.getfield 31, 3) := by decide +kernel
theorem dX8_open_46 : decode cX8_open 46 = .ok (.invokevirtual 311, 3) := by decide +kernel
theorem dX8_open_49 : decode cX8_open 49 = .ok (.ireturn, 1) := by decide +kernel
theorem dX8_claim_0 : decode cX8_claim 0 = .ok (.aload_n 0, 1) := by decide +kernel
theorem dX8_claim_1 : decode cX8_claim 1 = .ok (.iload_n 1, 1) := by decide +kernel
theorem dX8_claim_2 : decode cX8_claim 2 = .ok (.invokevirtual 164, 3) := by decide +kernel
theorem dX8_claim_5 : decode cX8_claim 5 = .ok (.aload_n 0, 1) := by decide +kernel
theorem dX8_claim_6 : decode cX8_claim 6 = .ok (.getfield 31, 3) := by decide +kernel
theorem dX8_claim_9 : decode cX8_claim 9 = .ok (.getfield 117, 3) := by decide +kernel
theorem dX8_claim_12 : decode cX8_claim 12 = .ok (.iconst 4, 1) := by decide +kernel
theorem dX8_claim_13 : decode cX8_claim 13 = .ok (.if_icmp .eq 20, 3) := by decide +kernel
theorem dX8_claim_16 : decode cX8_claim 16 = .ok (.aload_n 0, 1) := by decide +kernel
theorem dX8_claim_17 : decode cX8_claim 17 = .ok (.getfield 31, 3) := by decide +kernel
theorem dX8_claim_20 : decode cX8_claim 20 = .ok (.iload_n 1, 1) := by decide +kernel
theorem dX8_claim_21 : decode cX8_claim 21 = .ok (.invokestatic 320, 3) := by decide +kernel
theorem dX8_claim_24 : decode cX8_claim 24 = .ok (.invokevirtual 93, 3) := by decide +kernel
theorem dX8_claim_27 : decode cX8_claim 27 = .ok (.getfield 183, 3) := by decide +kernel
theorem dX8_claim_30 : decode cX8_claim 30 = .ok (.ifCond .ne 14, 3) := by decide +kernel
theorem dX8_claim_33 : decode cX8_claim 33 = .ok (.new 55, 3) := by decide +kernel
theorem dX8_claim_36 : decode cX8_claim 36 = .ok (.dup, 1) := by decide +kernel
theorem dX8_claim_37 : decode cX8_claim 37 = .ok (.ldc_w 323, 3) := by decide +kernel
theorem dX8_claim_40 : decode cX8_claim 40 = .ok (.invokespecial 59, 3) := by decide +kernel
theorem dX8_claim_43 : decode cX8_claim 43 = .ok (.athrow, 1) := by decide +kernel
theorem dX8_claim_44 : decode cX8_claim 44 = .ok (.aload_n 0, 1) := by decide +kernel
theorem dX8_claim_45 : decode cX8_claim 45 = .ok (.invokevirtual 75, 3) := by decide +kernel
theorem dX8_claim_48 : decode cX8_claim 48 = .ok (.aload_n 0, 1) := by decide +kernel
theorem dX8_claim_49 : decode cX8_claim 49 = .ok (.getfield 31, 3) := by decide +kernel
theorem dX8_claim_52 : decode cX8_claim 52 = .ok (.aload_n 0, 1) := by decide +kernel
theorem dX8_claim_53 : decode cX8_claim 53 = .ok (.getfield 31, 3) := by decide +kernel
theorem dX8_claim_56 : decode cX8_claim 56 = .ok (.iload_n 1, 1) := by decide +kernel
theorem dX8_claim_57 : decode cX8_claim 57 = .ok (.invokevirtual 93, 3) := by decide +kernel
theorem dX8_claim_60 : decode cX8_claim 60 = .ok (.getfield 183, 3) := by decide +kernel
theorem dX8_claim_63 : decode cX8_claim 63 = .ok (.ifCond .eq 7, 3) := by decide +kernel
theorem dX8_claim_66 : decode cX8_claim 66 = .ok (.iconst 2, 1) := by decide +kernel
theorem dX8_claim_67 : decode cX8_claim 67 = .ok (.goto 14, 3) := by decide +kernel
theorem dX8_claim_70 : decode cX8_claim 70 = .ok (.aload_n 0, 1) := by decide +kernel
theorem dX8_claim_71 : decode cX8_claim 71 = .ok (.getfield 31, 3) := by decide +kernel
theorem dX8_claim_74 : decode cX8_claim 74 = .ok (.iload_n 1, 1) := by decide +kernel
theorem dX8_claim_75 : decode cX8_claim 75 = .ok (.invokestatic 320, 3) := by decide +kernel
theorem dX8_claim_78 : decode cX8_claim 78 = .ok (.invokevirtual 289, 3) := by decide +kernel
theorem dX8_claim_81 : decode cX8_claim 81 = .ok (.invokevirtual 325, 3) := by decide +kernel
theorem dX8_claim_84 : decode cX8_claim 84 = .ok (.aload_n 0, 1) := by decide +kernel
theorem dX8_claim_85 : decode cX8_claim 85 = .ok (.getfield 31, 3) := by decide +kernel
theorem dX8_claim_88 : decode cX8_claim 88 = .ok (.getfield 152, 3) := by decide +kernel
theorem dX8_claim_91 : decode cX8_claim 91 = .ok (.ireturn, 1) := by decide +kernel
theorem dX8_give_0 : decode cX8_give 0 = .ok (.aload_n 0, 1) := by decide +kernel
theorem dX8_give_1 : decode cX8_give 1 = .ok (.iload_n 1, 1) := by decide +kernel
theorem dX8_give_2 : decode cX8_give 2 = .ok (.invokevirtual 164, 3) := by decide +kernel
theorem dX8_give_5 : decode cX8_give 5 = .ok (.iload_n 2, 1) := by decide +kernel
theorem dX8_give_6 : decode cX8_give 6 = .ok (.sipush (-9999), 3) := by decide +kernel
theorem dX8_give_9 : decode cX8_give 9 = .ok (.if_icmp .lt 10, 3) := by decide +kernel
theorem dX8_give_12 : decode cX8_give 12 = .ok (.iload_n 2, 1) := by decide +kernel
theorem dX8_give_13 : decode cX8_give 13 = .ok (.sipush 9999, 3) := by decide +kernel
theorem dX8_give_16 : decode cX8_give 16 = .ok (.if_icmp .le 14, 3) := by decide +kernel
theorem dX8_give_19 : decode cX8_give 19 = .ok (.new 66, 3) := by decide +kernel
theorem dX8_give_22 : decode cX8_give 22 = .ok (.dup, 1) := by decide +kernel
theorem dX8_give_23 : decode cX8_give 23 = .ok (.ldc_w 295, 3) := by decide +kernel
theorem dX8_give_26 : decode cX8_give 26 = .ok (.invokespecial 70, 3) := by decide +kernel
theorem dX8_give_29 : decode cX8_give 29 = .ok (.athrow, 1) := by decide +kernel
theorem dX8_give_30 : decode cX8_give 30 = .ok (.aload_n 0, 1) := by decide +kernel
theorem dX8_give_31 : decode cX8_give 31 = .ok (.getfield 31, 3) := by decide +kernel
theorem dX8_give_34 : decode cX8_give 34 = .ok (.iload_n 1, 1) := by decide +kernel
theorem dX8_give_35 : decode cX8_give 35 = .ok (.invokevirtual 93, 3) := by decide +kernel
theorem dX8_give_38 : decode cX8_give 38 = .ok (.astore_n 3, 1) := by decide +kernel
theorem dX8_give_39 : decode cX8_give 39 = .ok (.aload_n 0, 1) := by decide +kernel
theorem dX8_give_40 : decode cX8_give 40 = .ok (.getfield 31, 3) := by decide +kernel
theorem dX8_give_43 : decode cX8_give 43 = .ok (.getfield 117, 3) := by decide +kernel
theorem dX8_give_46 : decode cX8_give 46 = .ok (.iconst 4, 1) := by decide +kernel
theorem dX8_give_47 : decode cX8_give 47 = .ok (.if_icmp .eq 20, 3) := by decide +kernel
theorem dX8_give_50 : decode cX8_give 50 = .ok (.aload_n 3, 1) := by decide +kernel
theorem dX8_give_51 : decode cX8_give 51 = .ok (.getfield 183, 3) := by decide +kernel
theorem dX8_give_54 : decode cX8_give 54 = .ok (.ifCond .ne 13, 3) := by decide +kernel
theorem dX8_give_57 : decode cX8_give 57 = .ok (.aload_n 3, 1) := by decide +kernel
theorem dX8_give_58 : decode cX8_give 58 = .ok (.getfield 97, 3) := by decide +kernel
theorem dX8_give_61 : decode cX8_give 61 = .ok (.iload_n 2, 1) := by decide +kernel
theorem dX8_give_62 : decode cX8_give 62 = .ok (.iadd, 1) := by decide +kernel
theorem dX8_give_63 : decode cX8_give 63 = .ok (.iconst 1, 1) := by decide +kernel
theorem dX8_give_64 : decode cX8_give 64 = .ok (.if_icmp .ge 14, 3) := by decide +kernel
theorem dX8_give_67 : decode cX8_give 67 = .ok (.new 55, 3) := by decide +kernel
theorem dX8_give_70 : decode cX8_give 70 = .ok (.dup, 1) := by decide +kernel
theorem dX8_give_71 : decode cX8_give 71 = .ok (.ldc_w 330, 3) := by decide +kernel
theorem dX8_give_74 : decode cX8_give 74 = .ok (.invokespecial 59, 3) := by decide +kernel
theorem dX8_give_77 : decode cX8_give 77 = .ok (.athrow, 1) := by decide +kernel
theorem dX8_give_78 : decode cX8_give 78 = .ok (.aload_n 0, 1) := by decide +kernel
theorem dX8_give_79 : decode cX8_give 79 = .ok (.invokevirtual 75, 3) := by decide +kernel
theorem dX8_give_82 : decode cX8_give 82 = .ok (.aload_n 3, 1) := by decide +kernel
theorem dX8_give_83 : decode cX8_give 83 = .ok (.dup, 1) := by decide +kernel
theorem dX8_give_84 : decode cX8_give 84 = .ok (.getfield 97, 3) := by decide +kernel
theorem dX8_give_87 : decode cX8_give 87 = .ok (.iload_n 2, 1) := by decide +kernel
theorem dX8_give_88 : decode cX8_give 88 = .ok (.iadd, 1) := by decide +kernel
theorem dX8_give_89 : decode cX8_give 89 = .ok (.putfield 97, 3) := by decide +kernel
theorem dX8_give_92 : decode cX8_give 92 = .ok (.aload_n 3, 1) := by decide +kernel
theorem dX8_give_93 : decode cX8_give 93 = .ok (.getfield 97, 3) := by decide +kernel
theorem dX8_give_96 : decode cX8_give 96 = .ok (.ireturn, 1) := by decide +kernel
theorem dX8_setBare_0 : decode cX8_setBare 0 = .ok (.aload_n 0, 1) := by decide +kernel
theorem dX8_setBare_1 : decode cX8_setBare 1 = .ok (.iload_n 1, 1) := by decide +kernel
theorem dX8_setBare_2 : decode cX8_setBare 2 = .ok (.invokevirtual 164, 3) := by decide +kernel
theorem dX8_setBare_5 : decode cX8_setBare 5 = .ok (.aload_n 0, 1) := by decide +kernel
theorem dX8_setBare_6 : decode cX8_setBare 6 = .ok (.invokevirtual 75, 3) := by decide +kernel
theorem dX8_setBare_9 : decode cX8_setBare 9 = .ok (.aload_n 0, 1) := by decide +kernel
theorem dX8_setBare_10 : decode cX8_setBare 10 = .ok (.getfield 31, 3) := by decide +kernel
theorem dX8_setBare_13 : decode cX8_setBare 13 = .ok (.iload_n 1, 1) := by decide +kernel
theorem dX8_setBare_14 : decode cX8_setBare 14 = .ok (.invokevirtual 93, 3) := by decide +kernel
theorem dX8_setBare_17 : decode cX8_setBare 17 = .ok (.astore_n 3, 1) := by decide +kernel
theorem dX8_setBare_18 : decode cX8_setBare 18 = .ok (.aload_n 3, 1) := by decide +kernel
theorem dX8_setBare_19 : decode cX8_setBare 19 = .ok (.getfield 186, 3) := by decide +kernel
theorem dX8_setBare_22 : decode cX8_setBare 22 = .ok (.istore 4, 2) := by decide +kernel
theorem dX8_setBare_24 : decode cX8_setBare 24 = .ok (.aload_n 3, 1) := by decide +kernel
theorem dX8_setBare_25 : decode cX8_setBare 25 = .ok (.iload_n 2, 1) := by decide +kernel
theorem dX8_setBare_26 : decode cX8_setBare 26 = .ok (.putfield 186, 3) := by decide +kernel
theorem dX8_setBare_29 : decode cX8_setBare 29 = .ok (.iload 4, 2) := by decide +kernel
theorem dX8_setBare_31 : decode cX8_setBare 31 = .ok (.ireturn, 1) := by decide +kernel
theorem dX8_setClaims_0 : decode cX8_setClaims 0 = .ok (.aload_n 0, 1) := by decide +kernel
theorem dX8_setClaims_1 : decode cX8_setClaims 1 = .ok (.invokevirtual 75, 3) := by decide +kernel
theorem dX8_setClaims_4 : decode cX8_setClaims 4 = .ok (.aload_n 0, 1) := by decide +kernel
theorem dX8_setClaims_5 : decode cX8_setClaims 5 = .ok (.getfield 31, 3) := by decide +kernel
theorem dX8_setClaims_8 : decode cX8_setClaims 8 = .ok (.getfield 151, 3) := by decide +kernel
theorem dX8_setClaims_11 : decode cX8_setClaims 11 = .ok (.istore_n 2, 1) := by decide +kernel
theorem dX8_setClaims_12 : decode cX8_setClaims 12 = .ok (.aload_n 0, 1) := by decide +kernel
theorem dX8_setClaims_13 : decode cX8_setClaims 13 = .ok (.getfield 31, 3) := by decide +kernel
theorem dX8_setClaims_16 : decode cX8_setClaims 16 = .ok (.iload_n 1, 1) := by decide +kernel
theorem dX8_setClaims_17 : decode cX8_setClaims 17 = .ok (.putfield 151, 3) := by decide +kernel
theorem dX8_setClaims_20 : decode cX8_setClaims 20 = .ok (.iload_n 2, 1) := by decide +kernel
theorem dX8_setClaims_21 : decode cX8_setClaims 21 = .ok (.ireturn, 1) := by decide +kernel
theorem dX8_setPeriod_0 : decode cX8_setPeriod 0 = .ok (.aload_n 0, 1) := by decide +kernel
theorem dX8_setPeriod_1 : decode cX8_setPeriod 1 = .ok (.iload_n 1, 1) := by decide +kernel
theorem dX8_setPeriod_2 : decode cX8_setPeriod 2 = .ok (.invokevirtual 157, 3) := by decide +kernel
theorem dX8_setPeriod_5 : decode cX8_setPeriod 5 = .ok (.iload_n 2, 1) := by decide +kernel
theorem dX8_setPeriod_6 : decode cX8_setPeriod 6 = .ok (.iconst 2, 1) := by decide +kernel
theorem dX8_setPeriod_7 : decode cX8_setPeriod 7 = .ok (.if_icmp .lt 19, 3) := by decide +kernel
theorem dX8_setPeriod_10 : decode cX8_setPeriod 10 = .ok (.iload_n 2, 1) := by decide +kernel
theorem dX8_setPeriod_11 : decode cX8_setPeriod 11 = .ok (.iconst 4, 1) := by decide +kernel
theorem dX8_setPeriod_12 : decode cX8_setPeriod 12 = .ok (.if_icmp .gt 14, 3) := by decide +kernel
theorem dX8_setPeriod_15 : decode cX8_setPeriod 15 = .ok (.iload_n 3, 1) := by decide +kernel
theorem dX8_setPeriod_16 : decode cX8_setPeriod 16 = .ok (.ifCond .lt 10, 3) := by decide +kernel
theorem dX8_setPeriod_19 : decode cX8_setPeriod 19 = .ok (.iload_n 3, 1) := by decide +kernel
theorem dX8_setPeriod_20 : decode cX8_setPeriod 20 = .ok (.sipush 999, 3) := by decide +kernel
theorem dX8_setPeriod_23 : decode cX8_setPeriod 23 = .ok (.if_icmp .le 14, 3) := by decide +kernel
theorem dX8_setPeriod_26 : decode cX8_setPeriod 26 = .ok (.new 66, 3) := by decide +kernel
