theorem dX8_firstNotBefore_52 : decode cX8_firstNotBefore 52 = .ok (.ireturn, 1) := by decide +kernel
theorem dX8_add_0 : decode cX8_add 0 = .ok (.aload_n 0, 1) := by decide +kernel
theorem dX8_add_1 : decode cX8_add 1 = .ok (.getfield 19, 3) := by decide +kernel
theorem dX8_add_4 : decode cX8_add 4 = .ok (.bipush 60, 2) := by decide +kernel
theorem dX8_add_6 : decode cX8_add 6 = .ok (.if_icmp .lt 5, 3) := by decide +kernel
theorem dX8_add_9 : decode cX8_add 9 = .ok (.iconst (-1), 1) := by decide +kernel
theorem dX8_add_10 : decode cX8_add 10 = .ok (.ireturn, 1) := by decide +kernel
theorem dX8_add_11 : decode cX8_add 11 = .ok (.aload_n 0, 1) := by decide +kernel
theorem dX8_add_12 : decode cX8_add 12 = .ok (.iload_n 1, 1) := by decide +kernel
theorem dX8_add_13 : decode cX8_add 13 = .ok (.iload_n 2, 1) := by decide +kernel
theorem dX8_add_14 : decode cX8_add 14 = .ok (.invokevirtual 43, 3) := by decide +kernel
theorem dX8_add_17 : decode cX8_add 17 = .ok (.istore_n 3, 1) := by decide +kernel
theorem dX8_add_18 : decode cX8_add 18 = .ok (.aload_n 0, 1) := by decide +kernel
theorem dX8_add_19 : decode cX8_add 19 = .ok (.iload_n 3, 1) := by decide +kernel
theorem dX8_add_20 : decode cX8_add 20 = .ok (.iload_n 3, 1) := by decide +kernel
theorem dX8_add_21 : decode cX8_add 21 = .ok (.iconst 1, 1) := by decide +kernel
theorem dX8_add_22 : decode cX8_add 22 = .ok (.iadd, 1) := by decide +kernel
theorem dX8_add_23 : decode cX8_add 23 = .ok (.aload_n 0, 1) := by decide +kernel
theorem dX8_add_24 : decode cX8_add 24 = .ok (.getfield 19, 3) := by decide +kernel
theorem dX8_add_27 : decode cX8_add 27 = .ok (.iload_n 3, 1) := by decide +kernel
theorem dX8_add_28 : decode cX8_add 28 = .ok (.isub, 1) := by decide +kernel
theorem dX8_add_29 : decode cX8_add 29 = .ok (.invokevirtual 55, 3) := by decide +kernel
theorem dX8_add_32 : decode cX8_add 32 = .ok (.aload_n 0, 1) := by decide +kernel
theorem dX8_add_33 : decode cX8_add 33 = .ok (.dup, 1) := by decide +kernel
theorem dX8_add_34 : decode cX8_add 34 = .ok (.getfield 19, 3) := by decide +kernel
theorem dX8_add_37 : decode cX8_add 37 = .ok (.iconst 1, 1) := by decide +kernel
theorem dX8_add_38 : decode cX8_add 38 = .ok (.iadd, 1) := by decide +kernel
theorem dX8_add_39 : decode cX8_add 39 = .ok (.putfield 19, 3) := by decide +kernel
theorem dX8_add_42 : decode cX8_add 42 = .ok (.aload_n 0, 1) := by decide +kernel
theorem dX8_add_43 : decode cX8_add 43 = .ok (.getfield 9, 3) := by decide +kernel
theorem dX8_add_46 : decode cX8_add 46 = .ok (.iload_n 3, 1) := by decide +kernel
theorem dX8_add_47 : decode cX8_add 47 = .ok (.iload_n 1, 1) := by decide +kernel
theorem dX8_add_48 : decode cX8_add 48 = .ok (.iastore, 1) := by decide +kernel
theorem dX8_add_49 : decode cX8_add 49 = .ok (.aload_n 0, 1) := by decide +kernel
theorem dX8_add_50 : decode cX8_add 50 = .ok (.getfield 13, 3) := by decide +kernel
theorem dX8_add_53 : decode cX8_add 53 = .ok (.iload_n 3, 1) := by decide +kernel
theorem dX8_add_54 : decode cX8_add 54 = .ok (.iload_n 2, 1) := by decide +kernel
theorem dX8_add_55 : decode cX8_add 55 = .ok (.iastore, 1) := by decide +kernel
theorem dX8_add_56 : decode cX8_add 56 = .ok (.iconst 0, 1) := by decide +kernel
theorem dX8_add_57 : decode cX8_add 57 = .ok (.istore 4, 2) := by decide +kernel
theorem dX8_add_59 : decode cX8_add 59 = .ok (.iload 4, 2) := by decide +kernel
theorem dX8_add_61 : decode cX8_add 61 = .ok (.iconst 4, 1) := by decide +kernel
theorem dX8_add_62 : decode cX8_add 62 = .ok (.if_icmp .ge 21, 3) := by decide +kernel
theorem dX8_add_65 : decode cX8_add 65 = .ok (.aload_n 0, 1) := by decide +kernel
theorem dX8_add_66 : decode cX8_add 66 = .ok (.getfield 16, 3) := by decide +kernel
theorem dX8_add_69 : decode cX8_add 69 = .ok (.iconst 4, 1) := by decide +kernel
theorem dX8_add_70 : decode cX8_add 70 = .ok (.iload_n 3, 1) := by decide +kernel
theorem dX8_add_71 : decode cX8_add 71 = .ok (.imul, 1) := by decide +kernel
theorem dX8_add_72 : decode cX8_add 72 = .ok (.iload 4, 2) := by decide +kernel
theorem dX8_add_74 : decode cX8_add 74 = .ok (.iadd, 1) := by decide +kernel
theorem dX8_add_75 : decode cX8_add 75 = .ok (.iconst 0, 1) := by decide +kernel
theorem dX8_add_76 : decode cX8_add 76 = .ok (.iastore, 1) := by decide +kernel
theorem dX8_add_77 : decode cX8_add 77 = .ok (.iinc 4 1, 3) := by decide +kernel
theorem dX8_add_80 : decode cX8_add 80 = .ok (.goto (-21), 3) := by decide +kernel
theorem dX8_add_83 : decode cX8_add 83 = .ok (.iload_n 3, 1) := by decide +kernel
theorem dX8_add_84 : decode cX8_add 84 = .ok (.ireturn, 1) := by decide +kernel
theorem dX8_remove_0 : decode cX8_remove 0 = .ok (.iconst 0, 1) := by decide +kernel
theorem dX8_remove_1 : decode cX8_remove 1 = .ok (.istore_n 2, 1) := by decide +kernel
theorem dX8_remove_2 : decode cX8_remove 2 = .ok (.iload_n 2, 1) := by decide +kernel
theorem dX8_remove_3 : decode cX8_remove 3 = .ok (.iconst 4, 1) := by decide +kernel
theorem dX8_remove_4 : decode cX8_remove 4 = .ok (.if_icmp .ge 28, 3) := by decide +kernel
theorem dX8_remove_7 : decode cX8_remove 7 = .ok (.aload_n 0, 1) := by decide +kernel
theorem dX8_remove_8 : decode cX8_remove 8 = .ok (.iload_n 1, 1) := by decide +kernel
theorem dX8_remove_9 : decode cX8_remove 9 = .ok (.iload_n 2, 1) := by decide +kernel
theorem dX8_remove_10 : decode cX8_remove 10 = .ok (.invokevirtual 59, 3) := by decide +kernel
theorem dX8_remove_13 : decode cX8_remove 13 = .ok (.istore_n 3, 1) := by decide +kernel
theorem dX8_remove_14 : decode cX8_remove 14 = .ok (.iload_n 3, 1) := by decide +kernel
theorem dX8_remove_15 : decode cX8_remove 15 = .ok (.ifCond .lt 11, 3) := by decide +kernel
theorem dX8_remove_18 : decode cX8_remove 18 = .ok (.aload_n 0, 1) := by decide +kernel
theorem dX8_remove_19 : decode cX8_remove 19 = .ok (.iload_n 1, 1) := by decide +kernel
theorem dX8_remove_20 : decode cX8_remove 20 = .ok (.iload_n 3, 1) := by decide +kernel
theorem dX8_remove_21 : decode cX8_remove 21 = .ok (.iload_n 2, 1) := by decide +kernel
theorem dX8_remove_22 : decode cX8_remove 22 = .ok (.iconst 0, 1) := by decide +kernel
theorem dX8_remove_23 : decode cX8_remove 23 = .ok (.invokevirtual 62, 3) := by decide +kernel
theorem dX8_remove_26 : decode cX8_remove 26 = .ok (.iinc 2 1, 3) := by decide +kernel
theorem dX8_remove_29 : decode cX8_remove 29 = .ok (.goto (-27), 3) := by decide +kernel
theorem dX8_remove_32 : decode cX8_remove 32 = .ok (.aload_n 0, 1) := by decide +kernel
theorem dX8_remove_33 : decode cX8_remove 33 = .ok (.iload_n 1, 1) := by decide +kernel
theorem dX8_remove_34 : decode cX8_remove 34 = .ok (.iconst 1, 1) := by decide +kernel
theorem dX8_remove_35 : decode cX8_remove 35 = .ok (.iadd, 1) := by decide +kernel
theorem dX8_remove_36 : decode cX8_remove 36 = .ok (.iload_n 1, 1) := by decide +kernel
theorem dX8_remove_37 : decode cX8_remove 37 = .ok (.aload_n 0, 1) := by decide +kernel
theorem dX8_remove_38 : decode cX8_remove 38 = .ok (.getfield 19, 3) := by decide +kernel
theorem dX8_remove_41 : decode cX8_remove 41 = .ok (.iload_n 1, 1) := by decide +kernel
theorem dX8_remove_42 : decode cX8_remove 42 = .ok (.isub, 1) := by decide +kernel
theorem dX8_remove_43 : decode cX8_remove 43 = .ok (.iconst 1, 1) := by decide +kernel
theorem dX8_remove_44 : decode cX8_remove 44 = .ok (.isub, 1) := by decide +kernel
theorem dX8_remove_45 : decode cX8_remove 45 = .ok (.invokevirtual 55, 3) := by decide +kernel
theorem dX8_remove_48 : decode cX8_remove 48 = .ok (.aload_n 0, 1) := by decide +kernel
theorem dX8_remove_49 : decode cX8_remove 49 = .ok (.dup, 1) := by decide +kernel
theorem dX8_remove_50 : decode cX8_remove 50 = .ok (.getfield 19, 3) := by decide +kernel
theorem dX8_remove_53 : decode cX8_remove 53 = .ok (.iconst 1, 1) := by decide +kernel
theorem dX8_remove_54 : decode cX8_remove 54 = .ok (.isub, 1) := by decide +kernel
theorem dX8_remove_55 : decode cX8_remove 55 = .ok (.putfield 19, 3) := by decide +kernel
theorem dX8_remove_58 : decode cX8_remove 58 = .ok (.return_, 1) := by decide +kernel
theorem dX8_shift_0 : decode cX8_shift 0 = .ok (.aload_n 0, 1) := by decide +kernel
theorem dX8_shift_1 : decode cX8_shift 1 = .ok (.getfield 9, 3) := by decide +kernel
theorem dX8_shift_4 : decode cX8_shift 4 = .ok (.iload_n 1, 1) := by decide +kernel
theorem dX8_shift_5 : decode cX8_shift 5 = .ok (.aload_n 0, 1) := by decide +kernel
theorem dX8_shift_6 : decode cX8_shift 6 = .ok (.getfield 9, 3) := by decide +kernel
theorem dX8_shift_9 : decode cX8_shift 9 = .ok (.iload_n 2, 1) := by decide +kernel
theorem dX8_shift_10 : decode cX8_shift 10 = .ok (.iload_n 3, 1) := by decide +kernel
theorem dX8_shift_11 : decode cX8_shift 11 = .ok (.invokestatic 37, 3) := by decide +kernel
theorem dX8_shift_14 : decode cX8_shift 14 = .ok (.aload_n 0, 1) := by decide +kernel
theorem dX8_shift_15 : decode cX8_shift 15 = .ok (.getfield 13, 3) := by decide +kernel
theorem dX8_shift_18 : decode cX8_shift 18 = .ok (.iload_n 1, 1) := by decide +kernel
theorem dX8_shift_19 : decode cX8_shift 19 = .ok (.aload_n 0, 1) := by decide +kernel
theorem dX8_shift_20 : decode cX8_shift 20 = .ok (.getfield 13, 3) := by decide +kernel
theorem dX8_shift_23 : decode cX8_shift 23 = .ok (.iload_n 2, 1) := by decide +kernel
theorem dX8_shift_24 : decode cX8_shift 24 = .ok (.iload_n 3, 1) := by decide +kernel
theorem dX8_shift_25 : decode cX8_shift 25 = .ok (.invokestatic 37, 3) := by decide +kernel
theorem dX8_shift_28 : decode cX8_shift 28 = .ok (.aload_n 0, 1) := by decide +kernel
theorem dX8_shift_29 : decode cX8_shift 29 = .ok (.getfield 16, 3) := by decide +kernel
theorem dX8_shift_32 : decode cX8_shift 32 = .ok (.iconst 4, 1) := by decide +kernel
theorem dX8_shift_33 : decode cX8_shift 33 = .ok (.iload_n 1, 1) := by decide +kernel
theorem dX8_shift_34 : decode cX8_shift 34 = .ok (.imul, 1) := by decide +kernel
theorem dX8_shift_35 : decode cX8_shift 35 = .ok (.aload_n 0, 1) := by decide +kernel
theorem dX8_shift_36 : decode cX8_shift 36 = .ok (.getfield 16, 3) := by decide +kernel
theorem dX8_shift_39 : decode cX8_shift 39 = .ok (.iconst 4, 1) := by decide +kernel
theorem dX8_shift_40 : decode cX8_shift 40 = .ok (.iload_n 2, 1) := by decide +kernel
theorem dX8_shift_41 : decode cX8_shift 41 = .ok (.imul, 1) := by decide +kernel
theorem dX8_shift_42 : decode cX8_shift 42 = .ok (.iconst 4, 1) := by decide +kernel
theorem dX8_shift_43 : decode cX8_shift 43 = .ok (.iload_n 3, 1) := by decide +kernel
theorem dX8_shift_44 : decode cX8_shift 44 = .ok (.imul, 1) := by decide +kernel
theorem dX8_shift_45 : decode cX8_shift 45 = .ok (.invokestatic 37, 3) := by decide +kernel
theorem dX8_shift_48 : decode cX8_shift 48 = .ok (.return_, 1) := by decide +kernel
theorem dX8_join_0 : decode cX8_join 0 = .ok (.aload_n 0, 1) := by decide +kernel
theorem dX8_join_1 : decode cX8_join 1 = .ok (.getfield 16, 3) := by decide +kernel
theorem dX8_join_4 : decode cX8_join 4 = .ok (.iconst 4, 1) := by decide +kernel
theorem dX8_join_5 : decode cX8_join 5 = .ok (.iload_n 1, 1) := by decide +kernel
theorem dX8_join_6 : decode cX8_join 6 = .ok (.imul, 1) := by decide +kernel
theorem dX8_join_7 : decode cX8_join 7 = .ok (.iload_n 3, 1) := by decide +kernel
theorem dX8_join_8 : decode cX8_join 8 = .ok (.iadd, 1) := by decide +kernel
theorem dX8_join_9 : decode cX8_join 9 = .ok (.iload 4, 2) := by decide +kernel
theorem dX8_join_11 : decode cX8_join 11 = .ok (.iastore, 1) := by decide +kernel
theorem dX8_join_12 : decode cX8_join 12 = .ok (.aload_n 0, 1) := by decide +kernel
theorem dX8_join_13 : decode cX8_join 13 = .ok (.getfield 16, 3) := by decide +kernel
theorem dX8_join_16 : decode cX8_join 16 = .ok (.iconst 4, 1) := by decide +kernel
theorem dX8_join_17 : decode cX8_join 17 = .ok (.iload_n 2, 1) := by decide +kernel
theorem dX8_join_18 : decode cX8_join 18 = .ok (.imul, 1) := by decide +kernel
theorem dX8_join_19 : decode cX8_join 19 = .ok (.iload_n 3, 1) := by decide +kernel
theorem dX8_join_20 : decode cX8_join 20 = .ok (.iconst 2, 1) := by decide +kernel
theorem dX8_join_21 : decode cX8_join 21 = .ok (.iadd, 1) := by decide +kernel
theorem dX8_join_22 : decode cX8_join 22 = .ok (.iconst 3, 1) := by decide +kernel
theorem dX8_join_23 : decode cX8_join 23 = .ok (.iand, 1) := by decide +kernel
theorem dX8_join_24 : decode cX8_join 24 = .ok (.iadd, 1) := by decide +kernel
theorem dX8_join_25 : decode cX8_join 25 = .ok (.iload 4, 2) := by decide +kernel
theorem dX8_join_27 : decode cX8_join 27 = .ok (.iastore, 1) := by decide +kernel
theorem dX8_join_28 : decode cX8_join 28 = .ok (.return_, 1) := by decide +kernel
theorem dX8_becomeTurned_0 : decode cX8_becomeTurned 0 = .ok (.aload_n 0, 1) := by decide +kernel
theorem dX8_becomeTurned_1 : decode cX8_becomeTurned 1 = .ok (.iconst 0, 1) := by decide +kernel
theorem dX8_becomeTurned_2 : decode cX8_becomeTurned 2 = .ok (.putfield 19, 3) := by decide +kernel
theorem dX8_becomeTurned_5 : decode cX8_becomeTurned 5 = .ok (.iconst 0, 1) := by decide +kernel
theorem dX8_becomeTurned_6 : decode cX8_becomeTurned 6 = .ok (.istore 4, 2) := by decide +kernel
theorem dX8_becomeTurned_8 : decode cX8_becomeTurned 8 = .ok (.iload 4, 2) := by decide +kernel
theorem dX8_becomeTurned_10 : decode cX8_becomeTurned 10 = .ok (.aload_n 1, 1) := by decide +kernel
theorem dX8_becomeTurned_11 : decode cX8_becomeTurned 11 = .ok (.getfield 19, 3) := by decide +kernel
theorem dX8_becomeTurned_14 : decode cX8_becomeTurned 14 = .ok (.if_icmp .ge 73, 3) := by decide +kernel
theorem dX8_becomeTurned_17 : decode cX8_becomeTurned 17 = .ok (.aload_n 0, 1) := by decide +kernel
theorem dX8_becomeTurned_18 : decode cX8_becomeTurned 18 = .ok (.aload_n 1, 1) := by decide +kernel
theorem dX8_becomeTurned_19 : decode cX8_becomeTurned 19 = .ok (.iload 4, 2) := by decide +kernel
theorem dX8_becomeTurned_21 : decode cX8_becomeTurned 21 = .ok (.iload_n 2, 1) := by decide +kernel
theorem dX8_becomeTurned_22 : decode cX8_becomeTurned 22 = .ok (.iload_n 3, 1) := by decide +kernel
theorem dX8_becomeTurned_23 : decode cX8_becomeTurned 23 = .ok (.invokevirtual 66, 3) := by decide +kernel
theorem dX8_becomeTurned_26 : decode cX8_becomeTurned 26 = .ok (.aload_n 1, 1) := by decide +kernel
theorem dX8_becomeTurned_27 : decode cX8_becomeTurned 27 = .ok (.iload 4, 2) := by decide +kernel
theorem dX8_becomeTurned_29 : decode cX8_becomeTurned 29 = .ok (.iload_n 2, 1) := by decide +kernel
theorem dX8_becomeTurned_30 : decode cX8_becomeTurned 30 = .ok (.iload_n 3, 1) := by decide +kernel
theorem dX8_becomeTurned_31 : decode cX8_becomeTurned 31 = .ok (.invokevirtual 70, 3) := by decide +kernel
theorem dX8_becomeTurned_34 : decode cX8_becomeTurned 34 = .ok (.invokevirtual 73, 3) := by decide +kernel
theorem dX8_becomeTurned_37 : decode cX8_becomeTurned 37 = .ok (.istore 5, 2) := by decide +kernel
theorem dX8_becomeTurned_39 : decode cX8_becomeTurned 39 = .ok (.iconst 0, 1) := by decide +kernel
theorem dX8_becomeTurned_40 : decode cX8_becomeTurned 40 = .ok (.istore 6, 2) := by decide +kernel
theorem dX8_becomeTurned_42 : decode cX8_becomeTurned 42 = .ok (.iload 5, 2) := by decide +kernel
theorem dX8_becomeTurned_44 : decode cX8_becomeTurned 44 = .ok (.ifCond .lt 37, 3) := by decide +kernel
theorem dX8_becomeTurned_47 : decode cX8_becomeTurned 47 = .ok (.iload 6, 2) := by decide +kernel
theorem dX8_becomeTurned_49 : decode cX8_becomeTurned 49 = .ok (.iconst 4, 1) := by decide +kernel
theorem dX8_becomeTurned_50 : decode cX8_becomeTurned 50 = .ok (.if_icmp .ge 31, 3) := by decide +kernel
theorem dX8_becomeTurned_53 : decode cX8_becomeTurned 53 = .ok (.aload_n 0, 1) := by decide +kernel
theorem dX8_becomeTurned_54 : decode cX8_becomeTurned 54 = .ok (.getfield 16, 3) := by decide +kernel
theorem dX8_becomeTurned_57 : decode cX8_becomeTurned 57 = .ok (.iconst 4, 1) := by decide +kernel
theorem dX8_becomeTurned_58 : decode cX8_becomeTurned 58 = .ok (.iload 5, 2) := by decide +kernel
theorem dX8_becomeTurned_60 : decode cX8_becomeTurned 60 = .ok (.imul, 1) := by decide +kernel
theorem dX8_becomeTurned_61 : decode cX8_becomeTurned 61 = .ok (.iload 6, 2) := by decide +kernel
theorem dX8_becomeTurned_63 : decode cX8_becomeTurned 63 = .ok (.iadd, 1) := by decide +kernel
theorem dX8_becomeTurned_64 : decode cX8_becomeTurned 64 = .ok (.aload_n 1, 1) := by decide +kernel
theorem dX8_becomeTurned_65 : decode cX8_becomeTurned 65 = .ok (.iload 4, 2) := by decide +kernel
theorem dX8_becomeTurned_67 : decode cX8_becomeTurned 67 = .ok (.iload 6, 2) := by decide +kernel
theorem dX8_becomeTurned_69 : decode cX8_becomeTurned 69 = .ok (.iload_n 2, 1) := by decide +kernel
theorem dX8_becomeTurned_70 : decode cX8_becomeTurned 70 = .ok (.iload_n 3, 1) := by decide +kernel
theorem dX8_becomeTurned_71 : decode cX8_becomeTurned 71 = .ok (.invokevirtual 76, 3) := by decide +kernel
theorem dX8_becomeTurned_74 : decode cX8_becomeTurned 74 = .ok (.iastore, 1) := by decide +kernel
theorem dX8_becomeTurned_75 : decode cX8_becomeTurned 75 = .ok (.iinc 6 1, 3) := by decide +kernel
theorem dX8_becomeTurned_78 : decode cX8_becomeTurned 78 = .ok (.goto (-36), 3) := by decide +kernel
theorem dX8_becomeTurned_81 : decode cX8_becomeTurned 81 = .ok (.iinc 4 1, 3) := by decide +kernel
theorem dX8_becomeTurned_84 : decode cX8_becomeTurned 84 = .ok (.goto (-76), 3) := by decide +kernel
theorem dX8_becomeTurned_87 : decode cX8_becomeTurned 87 = .ok (.return_, 1) := by decide +kernel
theorem dX8_turnedX_0 : decode cX8_turnedX 0 = .ok (.iload_n 3, 1) := by decide +kernel
theorem dX8_turnedX_1 : decode cX8_turnedX 1 = .ok (.ifCond .eq 13, 3) := by decide +kernel
theorem dX8_turnedX_4 : decode cX8_turnedX 4 = .ok (.aload_n 0, 1) := by decide +kernel
theorem dX8_turnedX_5 : decode cX8_turnedX 5 = .ok (.getfield 9, 3) := by decide +kernel
theorem dX8_turnedX_8 : decode cX8_turnedX 8 = .ok (.iload_n 1, 1) := by decide +kernel
theorem dX8_turnedX_9 : decode cX8_turnedX 9 = .ok (.iaload, 1) := by decide +kernel
theorem dX8_turnedX_10 : decode cX8_turnedX 10 = .ok (.ineg, 1) := by decide +kernel
theorem dX8_turnedX_11 : decode cX8_turnedX 11 = .ok (.goto 9, 3) := by decide +kernel
theorem dX8_turnedX_14 : decode cX8_turnedX 14 = .ok (.aload_n 0, 1) := by decide +kernel
theorem dX8_turnedX_15 : decode cX8_turnedX 15 = .ok (.getfield 9, 3) := by decide +kernel
theorem dX8_turnedX_18 : decode cX8_turnedX 18 = .ok (.iload_n 1, 1) := by decide +kernel
theorem dX8_turnedX_19 : decode cX8_turnedX 19 = .ok (.iaload, 1) := by decide +kernel
theorem dX8_turnedX_20 : decode cX8_turnedX 20 = .ok (.istore 4, 2) := by decide +kernel
theorem dX8_turnedX_22 : decode cX8_turnedX 22 = .ok (.iload 4, 2) := by decide +kernel
theorem dX8_turnedX_24 : decode cX8_turnedX 24 = .ok (.iload_n 2, 1) := by decide +kernel
theorem dX8_turnedX_25 : decode cX8_turnedX 25 = .ok (.invokestatic 46, 3) := by decide +kernel
theorem dX8_turnedX_28 : decode cX8_turnedX 28 = .ok (.imul, 1) := by decide +kernel
theorem dX8_turnedX_29 : decode cX8_turnedX 29 = .ok (.aload_n 0, 1) := by decide +kernel
theorem dX8_turnedX_30 : decode cX8_turnedX 30 = .ok (.getfield 13, 3) := by decide +kernel
theorem dX8_turnedX_33 : decode cX8_turnedX 33 = .ok (.iload_n 1, 1) := by decide +kernel
theorem dX8_turnedX_34 : decode cX8_turnedX 34 = .ok (.iaload, 1) := by decide +kernel
theorem dX8_turnedX_35 : decode cX8_turnedX 35 = .ok (.iload_n 2, 1) := by decide +kernel
theorem dX8_turnedX_36 : decode cX8_turnedX 36 = .ok (.invokestatic 49, 3) := by decide +kernel
theorem dX8_turnedX_39 : decode cX8_turnedX 39 = .ok (.imul, 1) := by decide +kernel
theorem dX8_turnedX_40 : decode cX8_turnedX 40 = .ok (.isub, 1) := by decide +kernel
theorem dX8_turnedX_41 : decode cX8_turnedX 41 = .ok (.ireturn, 1) := by decide +kernel
theorem dX8_turnedY_0 : decode cX8_turnedY 0 = .ok (.iload_n 3, 1) := by decide +kernel
theorem dX8_turnedY_1 : decode cX8_turnedY 1 = .ok (.ifCond .eq 13, 3) := by decide +kernel
theorem dX8_turnedY_4 : decode cX8_turnedY 4 = .ok (.aload_n 0, 1) := by decide +kernel
theorem dX8_turnedY_5 : decode cX8_turnedY 5 = .ok (.getfield 9, 3) := by decide +kernel
theorem dX8_turnedY_8 : decode cX8_turnedY 8 = .ok (.iload_n 1, 1) := by decide +kernel
theorem dX8_turnedY_9 : decode cX8_turnedY 9 = .ok (.iaload, 1) := by decide +kernel
theorem dX8_turnedY_10 : decode cX8_turnedY 10 = .ok (.ineg, 1) := by decide +kernel
theorem dX8_turnedY_11 : decode cX8_turnedY 11 = .ok (.goto 9, 3) := by decide +kernel
theorem dX8_turnedY_14 : decode cX8_turnedY 14 = .ok (.aload_n 0, 1) := by decide +kernel
theorem dX8_turnedY_15 : decode cX8_turnedY 15 = .ok (.getfield 9, 3) := by decide +kernel
theorem dX8_turnedY_18 : decode cX8_turnedY 18 = .ok (.iload_n 1, 1) := by decide +kernel
theorem dX8_turnedY_19 : decode cX8_turnedY 19 = .ok (.iaload, 1) := by decide +kernel
theorem dX8_turnedY_20 : decode cX8_turnedY 20 = .ok (.istore 4, 2) := by decide +kernel
theorem dX8_turnedY_22 : decode cX8_turnedY 22 = .ok (.iload 4, 2) := by decide +kernel
theorem dX8_turnedY_24 : decode cX8_turnedY 24 = .ok (.iload_n 2, 1) := by decide +kernel
theorem dX8_turnedY_25 : decode cX8_turnedY 25 = .ok (.invokestatic 49, 3) := by decide +kernel
theorem dX8_turnedY_28 : decode cX8_turnedY 28 = .ok (.imul, 1) := by decide +kernel
theorem dX8_turnedY_29 : decode cX8_turnedY 29 = .ok (.aload_n 0, 1) := by decide +kernel
theorem dX8_turnedY_30 : decode cX8_turnedY 30 = .ok (.getfield 13, 3) := by decide +kernel
theorem dX8_turnedY_33 : decode cX8_turnedY 33 = .ok (.iload_n 1, 1) := by decide +kernel
theorem dX8_turnedY_34 : decode cX8_turnedY 34 = .ok (.iaload, 1) := by decide +kernel
theorem dX8_turnedY_35 : decode cX8_turnedY 35 = .ok (.iload_n 2, 1) := by decide +kernel
theorem dX8_turnedY_36 : decode cX8_turnedY 36 = .ok (.invokestatic 46, 3) := by decide +kernel
theorem dX8_turnedY_39 : decode cX8_turnedY 39 = .ok (.imul, 1) := by decide +kernel
theorem dX8_turnedY_40 : decode cX8_turnedY 40 = .ok (.iadd, 1) := by decide +kernel
theorem dX8_turnedY_41 : decode cX8_turnedY 41 = .ok (.ireturn, 1) := by decide +kernel
theorem dX8_turnedCrease_0 : decode cX8_turnedCrease 0 = .ok (.iload_n 2, 1) := by decide +kernel
theorem dX8_turnedCrease_1 : decode cX8_turnedCrease 1 = .ok (.iload_n 3, 1) := by decide +kernel
theorem dX8_turnedCrease_2 : decode cX8_turnedCrease 2 = .ok (.isub, 1) := by decide +kernel
theorem dX8_turnedCrease_3 : decode cX8_turnedCrease 3 = .ok (.iconst 3, 1) := by decide +kernel
theorem dX8_turnedCrease_4 : decode cX8_turnedCrease 4 = .ok (.iand, 1) := by decide +kernel
theorem dX8_turnedCrease_5 : decode cX8_turnedCrease 5 = .ok (.istore 5, 2) := by decide +kernel
theorem dX8_turnedCrease_7 : decode cX8_turnedCrease 7 = .ok (.aload_n 0, 1) := by decide +kernel
theorem dX8_turnedCrease_8 : decode cX8_turnedCrease 8 = .ok (.getfield 16, 3) := by decide +kernel
theorem dX8_turnedCrease_11 : decode cX8_turnedCrease 11 = .ok (.iconst 4, 1) := by decide +kernel
theorem dX8_turnedCrease_12 : decode cX8_turnedCrease 12 = .ok (.iload_n 1, 1) := by decide +kernel
theorem dX8_turnedCrease_13 : decode cX8_turnedCrease 13 = .ok (.imul, 1) := by decide +kernel
theorem dX8_turnedCrease_14 : decode cX8_turnedCrease 14 = .ok (.iload 4, 2) := by decide +kernel
theorem dX8_turnedCrease_16 : decode cX8_turnedCrease 16 = .ok (.ifCond .eq 11, 3) := by decide +kernel
theorem dX8_turnedCrease_19 : decode cX8_turnedCrease 19 = .ok (.iload 5, 2) := by decide +kernel
theorem dX8_turnedCrease_21 : decode cX8_turnedCrease 21 = .ok (.invokestatic 80, 3) := by decide +kernel
theorem dX8_turnedCrease_24 : decode cX8_turnedCrease 24 = .ok (.goto 5, 3) := by decide +kernel
theorem dX8_turnedCrease_27 : decode cX8_turnedCrease 27 = .ok (.iload 5, 2) := by decide +kernel
theorem dX8_turnedCrease_29 : decode cX8_turnedCrease 29 = .ok (.iadd, 1) := by decide +kernel
theorem dX8_turnedCrease_30 : decode cX8_turnedCrease 30 = .ok (.iaload, 1) := by decide +kernel
theorem dX8_turnedCrease_31 : decode cX8_turnedCrease 31 = .ok (.ireturn, 1) := by decide +kernel
theorem dX9_init_0 : decode cX9_init 0 = .ok (.aload_n 0, 1) := by decide +kernel
theorem dX9_init_1 : decode cX9_init 1 = .ok (.invokespecial 1, 3) := by decide +kernel
theorem dX9_init_4 : decode cX9_init 4 = .ok (.aload_n 0, 1) := by decide +kernel
theorem dX9_init_5 : decode cX9_init 5 = .ok (.sipush 240, 3) := by decide +kernel
theorem dX9_init_8 : decode cX9_init 8 = .ok (.newarray .int, 2) := by decide +kernel
theorem dX9_init_10 : decode cX9_init 10 = .ok (.putfield 9, 3) := by decide +kernel
theorem dX9_init_13 : decode cX9_init 13 = .ok (.aload_n 0, 1) := by decide +kernel
theorem dX9_init_14 : decode cX9_init 14 = .ok (.sipush 240, 3) := by decide +kernel
theorem dX9_init_17 : decode cX9_init 17 = .ok (.newarray .int, 2) := by decide +kernel
theorem dX9_init_19 : decode cX9_init 19 = .ok (.putfield 13, 3) := by decide +kernel
theorem dX9_init_22 : decode cX9_init 22 = .ok (.aload_n 0, 1) := by decide +kernel
theorem dX9_init_23 : decode cX9_init 23 = .ok (.sipush 384, 3) := by decide +kernel
theorem dX9_init_26 : decode cX9_init 26 = .ok (.newarray .int, 2) := by decide +kernel
theorem dX9_init_28 : decode cX9_init 28 = .ok (.putfield 18, 3) := by decide +kernel
theorem dX9_init_31 : decode cX9_init 31 = .ok (.aload_n 0, 1) := by decide +kernel
theorem dX9_init_32 : decode cX9_init 32 = .ok (.sipush 960, 3) := by decide +kernel
theorem dX9_init_35 : decode cX9_init 35 = .ok (.newarray .int, 2) := by decide +kernel
theorem dX9_init_37 : decode cX9_init 37 = .ok (.putfield 21, 3) := by decide +kernel
theorem dX9_init_40 : decode cX9_init 40 = .ok (.aload_n 0, 1) := by decide +kernel
theorem dX9_init_41 : decode cX9_init 41 = .ok (.sipush 960, 3) := by decide +kernel
theorem dX9_init_44 : decode cX9_init 44 = .ok (.newarray .int, 2) := by decide +kernel
theorem dX9_init_46 : decode cX9_init 46 = .ok (.putfield 24, 3) := by decide +kernel
theorem dX9_init_49 : decode cX9_init 49 = .ok (.aload_n 0, 1) := by decide +kernel
theorem dX9_init_50 : decode cX9_init 50 = .ok (.lconst 0, 1) := by decide +kernel
theorem dX9_init_51 : decode cX9_init 51 = .ok (.putfield 27, 3) := by decide +kernel
theorem dX9_init_54 : decode cX9_init 54 = .ok (.aload_n 0, 1) := by decide +kernel
theorem dX9_init_55 : decode cX9_init 55 = .ok (.iconst 0, 1) := by decide +kernel
theorem dX9_init_56 : decode cX9_init 56 = .ok (.putfield 31, 3) := by decide +kernel
theorem dX9_init_59 : decode cX9_init 59 = .ok (.aload_n 0, 1) := by decide +kernel
theorem dX9_init_60 : decode cX9_init 60 = .ok (.aload_n 0, 1) := by decide +kernel
theorem dX9_init_61 : decode cX9_init 61 = .ok (.getfield 27, 3) := by decide +kernel
theorem dX9_init_64 : decode cX9_init 64 = .ok (.invokestatic 35, 3) := by decide +kernel
theorem dX9_init_67 : decode cX9_init 67 = .ok (.putfield 39, 3) := by decide +kernel
theorem dX9_init_70 : decode cX9_init 70 = .ok (.return_, 1) := by decide +kernel
theorem dX9_take_0 : decode cX9_take 0 = .ok (.aload_n 1, 1) := by decide +kernel
theorem dX9_take_1 : decode cX9_take 1 = .ok (.invokevirtual 42, 3) := by decide +kernel
theorem dX9_take_4 : decode cX9_take 4 = .ok (.aload_n 0, 1) := by decide +kernel
theorem dX9_take_5 : decode cX9_take 5 = .ok (.getfield 27, 3) := by decide +kernel
theorem dX9_take_8 : decode cX9_take 8 = .ok (.lcmp, 1) := by decide +kernel
theorem dX9_take_9 : decode cX9_take 9 = .ok (.ifCond .ne 4, 3) := by decide +kernel
theorem dX9_take_12 : decode cX9_take 12 = .ok (.return_, 1) := by decide +kernel
theorem dX9_take_13 : decode cX9_take 13 = .ok (.aload_n 0, 1) := by decide +kernel
theorem dX9_take_14 : decode cX9_take 14 = .ok (.aload_n 1, 1) := by decide +kernel
theorem dX9_take_15 : decode cX9_take 15 = .ok (.invokevirtual 42, 3) := by decide +kernel
theorem dX9_take_18 : decode cX9_take 18 = .ok (.putfield 27, 3) := by decide +kernel
theorem dX9_take_21 : decode cX9_take 21 = .ok (.aload_n 0, 1) := by decide +kernel
theorem dX9_take_22 : decode cX9_take 22 = .ok (.aload_n 0, 1) := by decide +kernel
theorem dX9_take_23 : decode cX9_take 23 = .ok (.getfield 27, 3) := by decide +kernel
theorem dX9_take_26 : decode cX9_take 26 = .ok (.invokestatic 35, 3) := by decide +kernel
theorem dX9_take_29 : decode cX9_take 29 = .ok (.putfield 39, 3) := by decide +kernel
theorem dX9_take_32 : decode cX9_take 32 = .ok (.aload_n 0, 1) := by decide +kernel
theorem dX9_take_33 : decode cX9_take 33 = .ok (.invokevirtual 45, 3) := by decide +kernel
theorem dX9_take_36 : decode cX9_take 36 = .ok (.iconst 0, 1) := by decide +kernel
theorem dX9_take_37 : decode cX9_take 37 = .ok (.istore_n 2, 1) := by decide +kernel
theorem dX9_take_38 : decode cX9_take 38 = .ok (.iload_n 2, 1) := by decide +kernel
theorem dX9_take_39 : decode cX9_take 39 = .ok (.aload_n 0, 1) := by decide +kernel
theorem dX9_take_40 : decode cX9_take 40 = .ok (.getfield 31, 3) := by decide +kernel
theorem dX9_take_43 : decode cX9_take 43 = .ok (.if_icmp .ge 28, 3) := by decide +kernel
theorem dX9_take_46 : decode cX9_take 46 = .ok (.iconst 0, 1) := by decide +kernel
theorem dX9_take_47 : decode cX9_take 47 = .ok (.istore_n 3, 1) := by decide +kernel
theorem dX9_take_48 : decode cX9_take 48 = .ok (.iload_n 3, 1) := by decide +kernel
theorem dX9_take_49 : decode cX9_take 49 = .ok (.iconst 4, 1) := by decide +kernel
theorem dX9_take_50 : decode cX9_take 50 = .ok (.if_icmp .ge 15, 3) := by decide +kernel
theorem dX9_take_53 : decode cX9_take 53 = .ok (.aload_n 0, 1) := by decide +kernel
theorem dX9_take_54 : decode cX9_take 54 = .ok (.iload_n 2, 1) := by decide +kernel
theorem dX9_take_55 : decode cX9_take 55 = .ok (.iload_n 3, 1) := by decide +kernel
theorem dX9_take_56 : decode cX9_take 56 = .ok (.invokevirtual 48, 3) := by decide +kernel
theorem dX9_take_59 : decode cX9_take 59 = .ok (.iinc 3 1, 3) := by decide +kernel
theorem dX9_take_62 : decode cX9_take 62 = .ok (.goto (-14), 3) := by decide +kernel
theorem dX9_take_65 : decode cX9_take 65 = .ok (.iinc 2 1, 3) := by decide +kernel
theorem dX9_take_68 : decode cX9_take 68 = .ok (.goto (-30), 3) := by decide +kernel
theorem dX9_take_71 : decode cX9_take 71 = .ok (.return_, 1) := by decide +kernel
theorem dX9_fault_0 : decode cX9_fault 0 = .ok (.aload_n 0, 1) := by decide +kernel
theorem dX9_fault_1 : decode cX9_fault 1 = .ok (.getfield 39, 3) := by decide +kernel
theorem dX9_fault_4 : decode cX9_fault 4 = .ok (.ireturn, 1) := by decide +kernel
theorem dX9_size_0 : decode cX9_size 0 = .ok (.aload_n 0, 1) := by decide +kernel
theorem dX9_size_1 : decode cX9_size 1 = .ok (.getfield 31, 3) := by decide +kernel
theorem dX9_size_4 : decode cX9_size 4 = .ok (.ireturn, 1) := by decide +kernel
theorem dX9_placeOf_0 : decode cX9_placeOf 0 = .ok (.aload_n 0, 1) := by decide +kernel
theorem dX9_placeOf_1 : decode cX9_placeOf 1 = .ok (.getfield 9, 3) := by decide +kernel
theorem dX9_placeOf_4 : decode cX9_placeOf 4 = .ok (.iload_n 1, 1) := by decide +kernel
theorem dX9_placeOf_5 : decode cX9_placeOf 5 = .ok (.iaload, 1) := by decide +kernel
theorem dX9_placeOf_6 : decode cX9_placeOf 6 = .ok (.ireturn, 1) := by decide +kernel
theorem dX9_directionOf_0 : decode cX9_directionOf 0 = .ok (.aload_n 0, 1) := by decide +kernel
theorem dX9_directionOf_1 : decode cX9_directionOf 1 = .ok (.getfield 13, 3) := by decide +kernel
theorem dX9_directionOf_4 : decode cX9_directionOf 4 = .ok (.iload_n 1, 1) := by decide +kernel
theorem dX9_directionOf_5 : decode cX9_directionOf 5 = .ok (.iaload, 1) := by decide +kernel
theorem dX9_directionOf_6 : decode cX9_directionOf 6 = .ok (.ireturn, 1) := by decide +kernel
theorem dX9_squareAcross_0 : decode cX9_squareAcross 0 = .ok (.aload_n 0, 1) := by decide +kernel
theorem dX9_squareAcross_1 : decode cX9_squareAcross 1 = .ok (.getfield 21, 3) := by decide +kernel
theorem dX9_squareAcross_4 : decode cX9_squareAcross 4 = .ok (.iconst 4, 1) := by decide +kernel
theorem dX9_squareAcross_5 : decode cX9_squareAcross 5 = .ok (.iload_n 1, 1) := by decide +kernel
theorem dX9_squareAcross_6 : decode cX9_squareAcross 6 = .ok (.imul, 1) := by decide +kernel
theorem dX9_squareAcross_7 : decode cX9_squareAcross 7 = .ok (.iload_n 2, 1) := by decide +kernel
theorem dX9_squareAcross_8 : decode cX9_squareAcross 8 = .ok (.iadd, 1) := by decide +kernel
theorem dX9_squareAcross_9 : decode cX9_squareAcross 9 = .ok (.iaload, 1) := by decide +kernel
theorem dX9_squareAcross_10 : decode cX9_squareAcross 10 = .ok (.iconst 2, 1) := by decide +kernel
theorem dX9_squareAcross_11 : decode cX9_squareAcross 11 = .ok (.ishr, 1) := by decide +kernel
theorem dX9_squareAcross_12 : decode cX9_squareAcross 12 = .ok (.ireturn, 1) := by decide +kernel
theorem dX9_sideAcross_0 : decode cX9_sideAcross 0 = .ok (.aload_n 0, 1) := by decide +kernel
theorem dX9_sideAcross_1 : decode cX9_sideAcross 1 = .ok (.getfield 21, 3) := by decide +kernel
theorem dX9_sideAcross_4 : decode cX9_sideAcross 4 = .ok (.iconst 4, 1) := by decide +kernel
theorem dX9_sideAcross_5 : decode cX9_sideAcross 5 = .ok (.iload_n 1, 1) := by decide +kernel
theorem dX9_sideAcross_6 : decode cX9_sideAcross 6 = .ok (.imul, 1) := by decide +kernel
theorem dX9_sideAcross_7 : decode cX9_sideAcross 7 = .ok (.iload_n 2, 1) := by decide +kernel
theorem dX9_sideAcross_8 : decode cX9_sideAcross 8 = .ok (.iadd, 1) := by decide +kernel
theorem dX9_sideAcross_9 : decode cX9_sideAcross 9 = .ok (.iaload, 1) := by decide +kernel
theorem dX9_sideAcross_10 : decode cX9_sideAcross 10 = .ok (.iconst 3, 1) := by decide +kernel
theorem dX9_sideAcross_11 : decode cX9_sideAcross 11 = .ok (.iand, 1) := by decide +kernel
theorem dX9_sideAcross_12 : decode cX9_sideAcross 12 = .ok (.ireturn, 1) := by decide +kernel
theorem dX9_bendAcross_0 : decode cX9_bendAcross 0 = .ok (.aload_n 0, 1) := by decide +kernel
theorem dX9_bendAcross_1 : decode cX9_bendAcross 1 = .ok (.getfield 24, 3) := by decide +kernel
theorem dX9_bendAcross_4 : decode cX9_bendAcross 4 = .ok (.iconst 4, 1) := by decide +kernel
theorem dX9_bendAcross_5 : decode cX9_bendAcross 5 = .ok (.iload_n 1, 1) := by decide +kernel
theorem dX9_bendAcross_6 : decode cX9_bendAcross 6 = .ok (.imul, 1) := by decide +kernel
theorem dX9_bendAcross_7 : decode cX9_bendAcross 7 = .ok (.iload_n 2, 1) := by decide +kernel
theorem dX9_bendAcross_8 : decode cX9_bendAcross 8 = .ok (.iadd, 1) := by decide +kernel
theorem dX9_bendAcross_9 : decode cX9_bendAcross 9 = .ok (.iaload, 1) := by decide +kernel
theorem dX9_bendAcross_10 : decode cX9_bendAcross 10 = .ok (.ireturn, 1) := by decide +kernel
theorem dX9_numberSquares_0 : decode cX9_numberSquares 0 = .ok (.aload_n 0, 1) := by decide +kernel
theorem dX9_numberSquares_1 : decode cX9_numberSquares 1 = .ok (.iconst 0, 1) := by decide +kernel
theorem dX9_numberSquares_2 : decode cX9_numberSquares 2 = .ok (.putfield 31, 3) := by decide +kernel
theorem dX9_numberSquares_5 : decode cX9_numberSquares 5 = .ok (.iconst 0, 1) := by decide +kernel
theorem dX9_numberSquares_6 : decode cX9_numberSquares 6 = .ok (.istore_n 1, 1) := by decide +kernel
theorem dX9_numberSquares_7 : decode cX9_numberSquares 7 = .ok (.iload_n 1, 1) := by decide +kernel
theorem dX9_numberSquares_8 : decode cX9_numberSquares 8 = .ok (.bipush 64, 2) := by decide +kernel
theorem dX9_numberSquares_10 : decode cX9_numberSquares 10 = .ok (.if_icmp .ge 114, 3) := by decide +kernel
theorem dX9_numberSquares_13 : decode cX9_numberSquares 13 = .ok (.iconst 0, 1) := by decide +kernel
theorem dX9_numberSquares_14 : decode cX9_numberSquares 14 = .ok (.istore_n 2, 1) := by decide +kernel
theorem dX9_numberSquares_15 : decode cX9_numberSquares 15 = .ok (.iload_n 2, 1) := by decide +kernel
theorem dX9_numberSquares_16 : decode cX9_numberSquares 16 = .ok (.bipush 6, 2) := by decide +kernel
theorem dX9_numberSquares_18 : decode cX9_numberSquares 18 = .ok (.if_icmp .ge 100, 3) := by decide +kernel
theorem dX9_numberSquares_21 : decode cX9_numberSquares 21 = .ok (.aload_n 0, 1) := by decide +kernel
theorem dX9_numberSquares_22 : decode cX9_numberSquares 22 = .ok (.getfield 27, 3) := by decide +kernel
theorem dX9_numberSquares_25 : decode cX9_numberSquares 25 = .ok (.iload_n 1, 1) := by decide +kernel
theorem dX9_numberSquares_26 : decode cX9_numberSquares 26 = .ok (.invokestatic 52, 3) := by decide +kernel
theorem dX9_numberSquares_29 : decode cX9_numberSquares 29 = .ok (.ifCond .eq 22, 3) := by decide +kernel
theorem dX9_numberSquares_32 : decode cX9_numberSquares 32 = .ok (.aload_n 0, 1) := by decide +kernel
theorem dX9_numberSquares_33 : decode cX9_numberSquares 33 = .ok (.getfield 27, 3) := by decide +kernel
theorem dX9_numberSquares_36 : decode cX9_numberSquares 36 = .ok (.iload_n 1, 1) := by decide +kernel
theorem dX9_numberSquares_37 : decode cX9_numberSquares 37 = .ok (.iload_n 2, 1) := by decide +kernel
theorem dX9_numberSquares_38 : decode cX9_numberSquares 38 = .ok (.invokestatic 56, 3) := by decide +kernel
theorem dX9_numberSquares_41 : decode cX9_numberSquares 41 = .ok (.invokestatic 52, 3) := by decide +kernel
theorem dX9_numberSquares_44 : decode cX9_numberSquares 44 = .ok (.ifCond .ne 7, 3) := by decide +kernel
theorem dX9_numberSquares_47 : decode cX9_numberSquares 47 = .ok (.iconst 1, 1) := by decide +kernel
theorem dX9_numberSquares_48 : decode cX9_numberSquares 48 = .ok (.goto 4, 3) := by decide +kernel
theorem dX9_numberSquares_51 : decode cX9_numberSquares 51 = .ok (.iconst 0, 1) := by decide +kernel
theorem dX9_numberSquares_52 : decode cX9_numberSquares 52 = .ok (.istore_n 3, 1) := by decide +kernel
theorem dX9_numberSquares_53 : decode cX9_numberSquares 53 = .ok (.iload_n 3, 1) := by decide +kernel
theorem dX9_numberSquares_54 : decode cX9_numberSquares 54 = .ok (.ifCond .eq 58, 3) := by decide +kernel
theorem dX9_numberSquares_57 : decode cX9_numberSquares 57 = .ok (.aload_n 0, 1) := by decide +kernel
theorem dX9_numberSquares_58 : decode cX9_numberSquares 58 = .ok (.getfield 31, 3) := by decide +kernel
theorem dX9_numberSquares_61 : decode cX9_numberSquares 61 = .ok (.sipush 240, 3) := by decide +kernel
theorem dX9_numberSquares_64 : decode cX9_numberSquares 64 = .ok (.if_icmp .ge 48, 3) := by decide +kernel
theorem dX9_numberSquares_67 : decode cX9_numberSquares 67 = .ok (.aload_n 0, 1) := by decide +kernel
theorem dX9_numberSquares_68 : decode cX9_numberSquares 68 = .ok (.getfield 18, 3) := by decide +kernel
theorem dX9_numberSquares_71 : decode cX9_numberSquares 71 = .ok (.bipush 6, 2) := by decide +kernel
theorem dX9_numberSquares_73 : decode cX9_numberSquares 73 = .ok (.iload_n 1, 1) := by decide +kernel
theorem dX9_numberSquares_74 : decode cX9_numberSquares 74 = .ok (.imul, 1) := by decide +kernel
theorem dX9_numberSquares_75 : decode cX9_numberSquares 75 = .ok (.iload_n 2, 1) := by decide +kernel
theorem dX9_numberSquares_76 : decode cX9_numberSquares 76 = .ok (.iadd, 1) := by decide +kernel
theorem dX9_numberSquares_77 : decode cX9_numberSquares 77 = .ok (.aload_n 0, 1) := by decide +kernel
theorem dX9_numberSquares_78 : decode cX9_numberSquares 78 = .ok (.getfield 31, 3) := by decide +kernel
theorem dX9_numberSquares_81 : decode cX9_numberSquares 81 = .ok (.iastore, 1) := by decide +kernel
theorem dX9_numberSquares_82 : decode cX9_numberSquares 82 = .ok (.aload_n 0, 1) := by decide +kernel
theorem dX9_numberSquares_83 : decode cX9_numberSquares 83 = .ok (.getfield 9, 3) := by decide +kernel
theorem dX9_numberSquares_86 : decode cX9_numberSquares 86 = .ok (.aload_n 0, 1) := by decide +kernel
theorem dX9_numberSquares_87 : decode cX9_numberSquares 87 = .ok (.getfield 31, 3) := by decide +kernel
theorem dX9_numberSquares_90 : decode cX9_numberSquares 90 = .ok (.iload_n 1, 1) := by decide +kernel
theorem dX9_numberSquares_91 : decode cX9_numberSquares 91 = .ok (.iastore, 1) := by decide +kernel
theorem dX9_numberSquares_92 : decode cX9_numberSquares 92 = .ok (.aload_n 0, 1) := by decide +kernel
theorem dX9_numberSquares_93 : decode cX9_numberSquares 93 = .ok (.getfield 13, 3) := by decide +kernel
theorem dX9_numberSquares_96 : decode cX9_numberSquares 96 = .ok (.aload_n 0, 1) := by decide +kernel
theorem dX9_numberSquares_97 : decode cX9_numberSquares 97 = .ok (.getfield 31, 3) := by decide +kernel
theorem dX9_numberSquares_100 : decode cX9_numberSquares 100 = .ok (.iload_n 2, 1) := by decide +kernel
theorem dX9_numberSquares_101 : decode cX9_numberSquares 101 = .ok (.iastore, 1) := by decide +kernel
theorem dX9_numberSquares_102 : decode cX9_numberSquares 102 = .ok (.aload_n 0, 1) := by decide +kernel
theorem dX9_numberSquares_103 : decode cX9_numberSquares 103 = .ok (.dup, 1) := by decide +kernel
theorem dX9_numberSquares_104 : decode cX9_numberSquares 104 = .ok (.getfield 31, 3) := by decide +kernel
theorem dX9_numberSquares_107 : decode cX9_numberSquares 107 = .ok (.iconst 1, 1) := by decide +kernel
theorem dX9_numberSquares_108 : decode cX9_numberSquares 108 = .ok (.iadd, 1) := by decide +kernel
theorem dX9_numberSquares_109 : decode cX9_numberSquares 109 = .ok (.putfield 31, 3) := by decide +kernel
theorem dX9_numberSquares_112 : decode cX9_numberSquares 112 = .ok (.iinc 2 1, 3) := by decide +kernel
theorem dX9_numberSquares_115 : decode cX9_numberSquares 115 = .ok (.goto (-100), 3) := by decide +kernel
theorem dX9_numberSquares_118 : decode cX9_numberSquares 118 = .ok (.iinc 1 1, 3) := by decide +kernel
theorem dX9_numberSquares_121 : decode cX9_numberSquares 121 = .ok (.goto (-114), 3) := by decide +kernel
theorem dX9_numberSquares_124 : decode cX9_numberSquares 124 = .ok (.return_, 1) := by decide +kernel
theorem dX9_lead_0 : decode cX9_lead 0 = .ok (.aload_n 0, 1) := by decide +kernel
theorem dX9_lead_1 : decode cX9_lead 1 = .ok (.getfield 9, 3) := by decide +kernel
theorem dX9_lead_4 : decode cX9_lead 4 = .ok (.iload_n 1, 1) := by decide +kernel
theorem dX9_lead_5 : decode cX9_lead 5 = .ok (.iaload, 1) := by decide +kernel
theorem dX9_lead_6 : decode cX9_lead 6 = .ok (.istore_n 3, 1) := by decide +kernel
theorem dX9_lead_7 : decode cX9_lead 7 = .ok (.aload_n 0, 1) := by decide +kernel
theorem dX9_lead_8 : decode cX9_lead 8 = .ok (.getfield 13, 3) := by decide +kernel
theorem dX9_lead_11 : decode cX9_lead 11 = .ok (.iload_n 1, 1) := by decide +kernel
theorem dX9_lead_12 : decode cX9_lead 12 = .ok (.iaload, 1) := by decide +kernel
theorem dX9_lead_13 : decode cX9_lead 13 = .ok (.istore 4, 2) := by decide +kernel
theorem dX9_lead_15 : decode cX9_lead 15 = .ok (.getstatic 60, 3) := by decide +kernel
theorem dX9_lead_18 : decode cX9_lead 18 = .ok (.iconst 4, 1) := by decide +kernel
theorem dX9_lead_19 : decode cX9_lead 19 = .ok (.iload 4, 2) := by decide +kernel
theorem dX9_lead_21 : decode cX9_lead 21 = .ok (.imul, 1) := by decide +kernel
theorem dX9_lead_22 : decode cX9_lead 22 = .ok (.iload_n 2, 1) := by decide +kernel
theorem dX9_lead_23 : decode cX9_lead 23 = .ok (.iadd, 1) := by decide +kernel
theorem dX9_lead_24 : decode cX9_lead 24 = .ok (.iaload, 1) := by decide +kernel
theorem dX9_lead_25 : decode cX9_lead 25 = .ok (.istore 5, 2) := by decide +kernel
theorem dX9_lead_27 : decode cX9_lead 27 = .ok (.iload_n 3, 1) := by decide +kernel
theorem dX9_lead_28 : decode cX9_lead 28 = .ok (.iload 5, 2) := by decide +kernel
theorem dX9_lead_30 : decode cX9_lead 30 = .ok (.invokestatic 56, 3) := by decide +kernel
theorem dX9_lead_33 : decode cX9_lead 33 = .ok (.istore 6, 2) := by decide +kernel
theorem dX9_lead_35 : decode cX9_lead 35 = .ok (.iload 6, 2) := by decide +kernel
theorem dX9_lead_37 : decode cX9_lead 37 = .ok (.iload 4, 2) := by decide +kernel
theorem dX9_lead_39 : decode cX9_lead 39 = .ok (.invokestatic 56, 3) := by decide +kernel
theorem dX9_lead_42 : decode cX9_lead 42 = .ok (.istore 7, 2) := by decide +kernel
theorem dX9_lead_44 : decode cX9_lead 44 = .ok (.aload_n 0, 1) := by decide +kernel
theorem dX9_lead_45 : decode cX9_lead 45 = .ok (.getfield 27, 3) := by decide +kernel
theorem dX9_lead_48 : decode cX9_lead 48 = .ok (.iload 7, 2) := by decide +kernel
theorem dX9_lead_50 : decode cX9_lead 50 = .ok (.invokestatic 52, 3) := by decide +kernel
theorem dX9_lead_53 : decode cX9_lead 53 = .ok (.ifCond .eq 25, 3) := by decide +kernel
theorem dX9_lead_56 : decode cX9_lead 56 = .ok (.aload_n 0, 1) := by decide +kernel
theorem dX9_lead_57 : decode cX9_lead 57 = .ok (.iload_n 1, 1) := by decide +kernel
theorem dX9_lead_58 : decode cX9_lead 58 = .ok (.iload_n 2, 1) := by decide +kernel
theorem dX9_lead_59 : decode cX9_lead 59 = .ok (.iconst (-1), 1) := by decide +kernel
theorem dX9_lead_60 : decode cX9_lead 60 = .ok (.iload 7, 2) := by decide +kernel
theorem dX9_lead_62 : decode cX9_lead 62 = .ok (.iload 5, 2) := by decide +kernel
theorem dX9_lead_64 : decode cX9_lead 64 = .ok (.invokestatic 63, 3) := by decide +kernel
theorem dX9_lead_67 : decode cX9_lead 67 = .ok (.iload 4, 2) := by decide +kernel
theorem dX9_lead_69 : decode cX9_lead 69 = .ok (.invokestatic 63, 3) := by decide +kernel
theorem dX9_lead_72 : decode cX9_lead 72 = .ok (.invokevirtual 67, 3) := by decide +kernel
theorem dX9_lead_75 : decode cX9_lead 75 = .ok (.goto 46, 3) := by decide +kernel
theorem dX9_lead_78 : decode cX9_lead 78 = .ok (.aload_n 0, 1) := by decide +kernel
theorem dX9_lead_79 : decode cX9_lead 79 = .ok (.getfield 27, 3) := by decide +kernel
theorem dX9_lead_82 : decode cX9_lead 82 = .ok (.iload 6, 2) := by decide +kernel
theorem dX9_lead_84 : decode cX9_lead 84 = .ok (.invokestatic 52, 3) := by decide +kernel
theorem dX9_lead_87 : decode cX9_lead 87 = .ok (.ifCond .eq 22, 3) := by decide +kernel
theorem dX9_lead_90 : decode cX9_lead 90 = .ok (.aload_n 0, 1) := by decide +kernel
theorem dX9_lead_91 : decode cX9_lead 91 = .ok (.iload_n 1, 1) := by decide +kernel
theorem dX9_lead_92 : decode cX9_lead 92 = .ok (.iload_n 2, 1) := by decide +kernel
theorem dX9_lead_93 : decode cX9_lead 93 = .ok (.iconst 0, 1) := by decide +kernel
theorem dX9_lead_94 : decode cX9_lead 94 = .ok (.iload 6, 2) := by decide +kernel
theorem dX9_lead_96 : decode cX9_lead 96 = .ok (.iload 4, 2) := by decide +kernel
theorem dX9_lead_98 : decode cX9_lead 98 = .ok (.iload 5, 2) := by decide +kernel
theorem dX9_lead_100 : decode cX9_lead 100 = .ok (.invokestatic 63, 3) := by decide +kernel
theorem dX9_lead_103 : decode cX9_lead 103 = .ok (.invokevirtual 67, 3) := by decide +kernel
theorem dX9_lead_106 : decode cX9_lead 106 = .ok (.goto 15, 3) := by decide +kernel
theorem dX9_lead_109 : decode cX9_lead 109 = .ok (.aload_n 0, 1) := by decide +kernel
theorem dX9_lead_110 : decode cX9_lead 110 = .ok (.iload_n 1, 1) := by decide +kernel
theorem dX9_lead_111 : decode cX9_lead 111 = .ok (.iload_n 2, 1) := by decide +kernel
theorem dX9_lead_112 : decode cX9_lead 112 = .ok (.iconst 1, 1) := by decide +kernel
theorem dX9_lead_113 : decode cX9_lead 113 = .ok (.iload_n 3, 1) := by decide +kernel
theorem dX9_lead_114 : decode cX9_lead 114 = .ok (.iload 5, 2) := by decide +kernel
theorem dX9_lead_116 : decode cX9_lead 116 = .ok (.iload 4, 2) := by decide +kernel
theorem dX9_lead_118 : decode cX9_lead 118 = .ok (.invokevirtual 67, 3) := by decide +kernel
theorem dX9_lead_121 : decode cX9_lead 121 = .ok (.return_, 1) := by decide +kernel
theorem dX9_note_0 : decode cX9_note 0 = .ok (.aload_n 0, 1) := by decide +kernel
theorem dX9_note_1 : decode cX9_note 1 = .ok (.getfield 18, 3) := by decide +kernel
theorem dX9_note_4 : decode cX9_note 4 = .ok (.bipush 6, 2) := by decide +kernel
theorem dX9_note_6 : decode cX9_note 6 = .ok (.iload 4, 2) := by decide +kernel
theorem dX9_note_8 : decode cX9_note 8 = .ok (.imul, 1) := by decide +kernel
theorem dX9_note_9 : decode cX9_note 9 = .ok (.iload 5, 2) := by decide +kernel
theorem dX9_note_11 : decode cX9_note 11 = .ok (.iadd, 1) := by decide +kernel
theorem dX9_note_12 : decode cX9_note 12 = .ok (.iaload, 1) := by decide +kernel
theorem dX9_note_13 : decode cX9_note 13 = .ok (.istore 7, 2) := by decide +kernel
theorem dX9_note_15 : decode cX9_note 15 = .ok (.aload_n 0, 1) := by decide +kernel
theorem dX9_note_16 : decode cX9_note 16 = .ok (.getfield 21, 3) := by decide +kernel
theorem dX9_note_19 : decode cX9_note 19 = .ok (.iconst 4, 1) := by decide +kernel
theorem dX9_note_20 : decode cX9_note 20 = .ok (.iload_n 1, 1) := by decide +kernel
theorem dX9_note_21 : decode cX9_note 21 = .ok (.imul, 1) := by decide +kernel
theorem dX9_note_22 : decode cX9_note 22 = .ok (.iload_n 2, 1) := by decide +kernel
theorem dX9_note_23 : decode cX9_note 23 = .ok (.iadd, 1) := by decide +kernel
theorem dX9_note_24 : decode cX9_note 24 = .ok (.iconst 4, 1) := by decide +kernel
theorem dX9_note_25 : decode cX9_note 25 = .ok (.iload 7, 2) := by decide +kernel
theorem dX9_note_27 : decode cX9_note 27 = .ok (.imul, 1) := by decide +kernel
theorem dX9_note_28 : decode cX9_note 28 = .ok (.iload 5, 2) := by decide +kernel
theorem dX9_note_30 : decode cX9_note 30 = .ok (.iload 6, 2) := by decide +kernel
theorem dX9_note_32 : decode cX9_note 32 = .ok (.invokestatic 71, 3) := by decide +kernel
theorem dX9_note_35 : decode cX9_note 35 = .ok (.iadd, 1) := by decide +kernel
theorem dX9_note_36 : decode cX9_note 36 = .ok (.iastore, 1) := by decide +kernel
theorem dX9_note_37 : decode cX9_note 37 = .ok (.aload_n 0, 1) := by decide +kernel
theorem dX9_note_38 : decode cX9_note 38 = .ok (.getfield 24, 3) := by decide +kernel
theorem dX9_note_41 : decode cX9_note 41 = .ok (.iconst 4, 1) := by decide +kernel
theorem dX9_note_42 : decode cX9_note 42 = .ok (.iload_n 1, 1) := by decide +kernel
theorem dX9_note_43 : decode cX9_note 43 = .ok (.imul, 1) := by decide +kernel
theorem dX9_note_44 : decode cX9_note 44 = .ok (.iload_n 2, 1) := by decide +kernel
theorem dX9_note_45 : decode cX9_note 45 = .ok (.iadd, 1) := by decide +kernel
theorem dX9_note_46 : decode cX9_note 46 = .ok (.iload_n 3, 1) := by decide +kernel
theorem dX9_note_47 : decode cX9_note 47 = .ok (.iastore, 1) := by decide +kernel
theorem dX9_note_48 : decode cX9_note 48 = .ok (.return_, 1) := by decide +kernel
theorem dX9_sideLooking_0 : decode cX9_sideLooking 0 = .ok (.iconst 0, 1) := by decide +kernel
theorem dX9_sideLooking_1 : decode cX9_sideLooking 1 = .ok (.istore_n 2, 1) := by decide +kernel
theorem dX9_sideLooking_2 : decode cX9_sideLooking 2 = .ok (.iload_n 2, 1) := by decide +kernel
theorem dX9_sideLooking_3 : decode cX9_sideLooking 3 = .ok (.iconst 3, 1) := by decide +kernel
theorem dX9_sideLooking_4 : decode cX9_sideLooking 4 = .ok (.if_icmp .ge 24, 3) := by decide +kernel
theorem dX9_sideLooking_7 : decode cX9_sideLooking 7 = .ok (.getstatic 60, 3) := by decide +kernel
theorem dX9_sideLooking_10 : decode cX9_sideLooking 10 = .ok (.iconst 4, 1) := by decide +kernel
theorem dX9_sideLooking_11 : decode cX9_sideLooking 11 = .ok (.iload_n 0, 1) := by decide +kernel
theorem dX9_sideLooking_12 : decode cX9_sideLooking 12 = .ok (.imul, 1) := by decide +kernel
theorem dX9_sideLooking_13 : decode cX9_sideLooking 13 = .ok (.iload_n 2, 1) := by decide +kernel
theorem dX9_sideLooking_14 : decode cX9_sideLooking 14 = .ok (.iadd, 1) := by decide +kernel
theorem dX9_sideLooking_15 : decode cX9_sideLooking 15 = .ok (.iaload, 1) := by decide +kernel
theorem dX9_sideLooking_16 : decode cX9_sideLooking 16 = .ok (.iload_n 1, 1) := by decide +kernel
theorem dX9_sideLooking_17 : decode cX9_sideLooking 17 = .ok (.if_icmp .ne 5, 3) := by decide +kernel
theorem dX9_sideLooking_20 : decode cX9_sideLooking 20 = .ok (.iload_n 2, 1) := by decide +kernel
theorem dX9_sideLooking_21 : decode cX9_sideLooking 21 = .ok (.ireturn, 1) := by decide +kernel
theorem dX9_sideLooking_22 : decode cX9_sideLooking 22 = .ok (.iinc 2 1, 3) := by decide +kernel
theorem dX9_sideLooking_25 : decode cX9_sideLooking 25 = .ok (.goto (-23), 3) := by decide +kernel
theorem dX9_sideLooking_28 : decode cX9_sideLooking 28 = .ok (.iconst 3, 1) := by decide +kernel
theorem dX9_sideLooking_29 : decode cX9_sideLooking 29 = .ok (.ireturn, 1) := by decide +kernel
theorem dX10_init_0 : decode cX10_init 0 = .ok (.aload_n 0, 1) := by decide +kernel
theorem dX10_init_1 : decode cX10_init 1 = .ok (.invokespecial 1, 3) := by decide +kernel
theorem dX10_init_4 : decode cX10_init 4 = .ok (.aload_n 0, 1) := by decide +kernel
theorem dX10_init_5 : decode cX10_init 5 = .ok (.bipush 60, 2) := by decide +kernel
theorem dX10_init_7 : decode cX10_init 7 = .ok (.newarray .int, 2) := by decide +kernel
theorem dX10_init_9 : decode cX10_init 9 = .ok (.putfield 9, 3) := by decide +kernel
theorem dX10_init_12 : decode cX10_init 12 = .ok (.aload_n 0, 1) := by decide +kernel
theorem dX10_init_13 : decode cX10_init 13 = .ok (.bipush 60, 2) := by decide +kernel
theorem dX10_init_15 : decode cX10_init 15 = .ok (.newarray .int, 2) := by decide +kernel
theorem dX10_init_17 : decode cX10_init 17 = .ok (.putfield 15, 3) := by decide +kernel
theorem dX10_init_20 : decode cX10_init 20 = .ok (.aload_n 0, 1) := by decide +kernel
theorem dX10_init_21 : decode cX10_init 21 = .ok (.bipush 60, 2) := by decide +kernel
theorem dX10_init_23 : decode cX10_init 23 = .ok (.newarray .int, 2) := by decide +kernel
theorem dX10_init_25 : decode cX10_init 25 = .ok (.putfield 18, 3) := by decide +kernel
theorem dX10_init_28 : decode cX10_init 28 = .ok (.aload_n 0, 1) := by decide +kernel
theorem dX10_init_29 : decode cX10_init 29 = .ok (.sipush 480, 3) := by decide +kernel
theorem dX10_init_32 : decode cX10_init 32 = .ok (.newarray .int, 2) := by decide +kernel
theorem dX10_init_34 : decode cX10_init 34 = .ok (.putfield 21, 3) := by decide +kernel
theorem dX10_init_37 : decode cX10_init 37 = .ok (.aload_n 0, 1) := by decide +kernel
theorem dX10_init_38 : decode cX10_init 38 = .ok (.iconst 0, 1) := by decide +kernel
theorem dX10_init_39 : decode cX10_init 39 = .ok (.putfield 24, 3) := by decide +kernel
theorem dX10_init_42 : decode cX10_init 42 = .ok (.return_, 1) := by decide +kernel
theorem dX10_ways_0 : decode cX10_ways 0 = .ok (.aload_n 0, 1) := by decide +kernel
theorem dX10_ways_1 : decode cX10_ways 1 = .ok (.getfield 24, 3) := by decide +kernel
theorem dX10_ways_4 : decode cX10_ways 4 = .ok (.ireturn, 1) := by decide +kernel
theorem dX10_squareOf_0 : decode cX10_squareOf 0 = .ok (.aload_n 0, 1) := by decide +kernel
theorem dX10_squareOf_1 : decode cX10_squareOf 1 = .ok (.getfield 21, 3) := by decide +kernel
theorem dX10_squareOf_4 : decode cX10_squareOf 4 = .ok (.iload_n 1, 1) := by decide +kernel
theorem dX10_squareOf_5 : decode cX10_squareOf 5 = .ok (.iaload, 1) := by decide +kernel
theorem dX10_squareOf_6 : decode cX10_squareOf 6 = .ok (.iconst 2, 1) := by decide +kernel
theorem dX10_squareOf_7 : decode cX10_squareOf 7 = .ok (.ishr, 1) := by decide +kernel
theorem dX10_squareOf_8 : decode cX10_squareOf 8 = .ok (.bipush 60, 2) := by decide +kernel
theorem dX10_squareOf_10 : decode cX10_squareOf 10 = .ok (.irem, 1) := by decide +kernel
theorem dX10_squareOf_11 : decode cX10_squareOf 11 = .ok (.ireturn, 1) := by decide +kernel
theorem dX10_turnOf_0 : decode cX10_turnOf 0 = .ok (.aload_n 0, 1) := by decide +kernel
theorem dX10_turnOf_1 : decode cX10_turnOf 1 = .ok (.getfield 21, 3) := by decide +kernel
theorem dX10_turnOf_4 : decode cX10_turnOf 4 = .ok (.iload_n 1, 1) := by decide +kernel
theorem dX10_turnOf_5 : decode cX10_turnOf 5 = .ok (.iaload, 1) := by decide +kernel
theorem dX10_turnOf_6 : decode cX10_turnOf 6 = .ok (.iconst 3, 1) := by decide +kernel
theorem dX10_turnOf_7 : decode cX10_turnOf 7 = .ok (.iand, 1) := by decide +kernel
theorem dX10_turnOf_8 : decode cX10_turnOf 8 = .ok (.ireturn, 1) := by decide +kernel
theorem dX10_isTurnedOver_0 : decode cX10_isTurnedOver 0 = .ok (.aload_n 0, 1) := by decide +kernel
theorem dX10_isTurnedOver_1 : decode cX10_isTurnedOver 1 = .ok (.getfield 21, 3) := by decide +kernel
theorem dX10_isTurnedOver_4 : decode cX10_isTurnedOver 4 = .ok (.iload_n 1, 1) := by decide +kernel
theorem dX10_isTurnedOver_5 : decode cX10_isTurnedOver 5 = .ok (.iaload, 1) := by decide +kernel
theorem dX10_isTurnedOver_6 : decode cX10_isTurnedOver 6 = .ok (.sipush 240, 3) := by decide +kernel
theorem dX10_isTurnedOver_9 : decode cX10_isTurnedOver 9 = .ok (.if_icmp .lt 7, 3) := by decide +kernel
theorem dX10_isTurnedOver_12 : decode cX10_isTurnedOver 12 = .ok (.iconst 1, 1) := by decide +kernel
theorem dX10_isTurnedOver_13 : decode cX10_isTurnedOver 13 = .ok (.goto 4, 3) := by decide +kernel
theorem dX10_isTurnedOver_16 : decode cX10_isTurnedOver 16 = .ok (.iconst 0, 1) := by decide +kernel
theorem dX10_isTurnedOver_17 : decode cX10_isTurnedOver 17 = .ok (.ireturn, 1) := by decide +kernel
theorem dX10_seek_0 : decode cX10_seek 0 = .ok (.aload_n 0, 1) := by decide +kernel
theorem dX10_seek_1 : decode cX10_seek 1 = .ok (.iconst 0, 1) := by decide +kernel
theorem dX10_seek_2 : decode cX10_seek 2 = .ok (.putfield 24, 3) := by decide +kernel
theorem dX10_seek_5 : decode cX10_seek 5 = .ok (.aload_n 1, 1) := by decide +kernel
theorem dX10_seek_6 : decode cX10_seek 6 = .ok (.invokevirtual 28, 3) := by decide +kernel
theorem dX10_seek_9 : decode cX10_seek 9 = .ok (.aload_n 3, 1) := by decide +kernel
theorem dX10_seek_10 : decode cX10_seek 10 = .ok (.invokevirtual 32, 3) := by decide +kernel
theorem dX10_seek_13 : decode cX10_seek 13 = .ok (.if_icmp .eq 4, 3) := by decide +kernel
theorem dX10_seek_16 : decode cX10_seek 16 = .ok (.return_, 1) := by decide +kernel
theorem dX10_seek_17 : decode cX10_seek 17 = .ok (.aload_n 2, 1) := by decide +kernel
theorem dX10_seek_18 : decode cX10_seek 18 = .ok (.aload_n 1, 1) := by decide +kernel
theorem dX10_seek_19 : decode cX10_seek 19 = .ok (.invokevirtual 35, 3) := by decide +kernel
theorem dX10_seek_22 : decode cX10_seek 22 = .ok (.aload_n 2, 1) := by decide +kernel
theorem dX10_seek_23 : decode cX10_seek 23 = .ok (.invokevirtual 41, 3) := by decide +kernel
theorem dX10_seek_26 : decode cX10_seek 26 = .ok (.ifCond .ne 4, 3) := by decide +kernel
theorem dX10_seek_29 : decode cX10_seek 29 = .ok (.return_, 1) := by decide +kernel
theorem dX10_seek_30 : decode cX10_seek 30 = .ok (.iconst 0, 1) := by decide +kernel
theorem dX10_seek_31 : decode cX10_seek 31 = .ok (.istore 4, 2) := by decide +kernel
theorem dX10_seek_33 : decode cX10_seek 33 = .ok (.iload 4, 2) := by decide +kernel
theorem dX10_seek_35 : decode cX10_seek 35 = .ok (.iconst 2, 1) := by decide +kernel
theorem dX10_seek_36 : decode cX10_seek 36 = .ok (.if_icmp .ge 83, 3) := by decide +kernel
theorem dX10_seek_39 : decode cX10_seek 39 = .ok (.iconst 0, 1) := by decide +kernel
theorem dX10_seek_40 : decode cX10_seek 40 = .ok (.istore 5, 2) := by decide +kernel
theorem dX10_seek_42 : decode cX10_seek 42 = .ok (.iload 5, 2) := by decide +kernel
theorem dX10_seek_44 : decode cX10_seek 44 = .ok (.iconst 4, 1) := by decide +kernel
theorem dX10_seek_45 : decode cX10_seek 45 = .ok (.aload_n 1, 1) := by decide +kernel
theorem dX10_seek_46 : decode cX10_seek 46 = .ok (.invokevirtual 28, 3) := by decide +kernel
theorem dX10_seek_49 : decode cX10_seek 49 = .ok (.imul, 1) := by decide +kernel
theorem dX10_seek_50 : decode cX10_seek 50 = .ok (.if_icmp .ge 63, 3) := by decide +kernel
theorem dX10_seek_53 : decode cX10_seek 53 = .ok (.aload_n 0, 1) := by decide +kernel
theorem dX10_seek_54 : decode cX10_seek 54 = .ok (.aload_n 1, 1) := by decide +kernel
theorem dX10_seek_55 : decode cX10_seek 55 = .ok (.invokevirtual 28, 3) := by decide +kernel
theorem dX10_seek_58 : decode cX10_seek 58 = .ok (.aload_n 2, 1) := by decide +kernel
theorem dX10_seek_59 : decode cX10_seek 59 = .ok (.aload_n 3, 1) := by decide +kernel
theorem dX10_seek_60 : decode cX10_seek 60 = .ok (.iload 5, 2) := by decide +kernel
theorem dX10_seek_62 : decode cX10_seek 62 = .ok (.iload 4, 2) := by decide +kernel
theorem dX10_seek_64 : decode cX10_seek 64 = .ok (.iconst 1, 1) := by decide +kernel
theorem dX10_seek_65 : decode cX10_seek 65 = .ok (.if_icmp .ne 7, 3) := by decide +kernel
theorem dX10_seek_68 : decode cX10_seek 68 = .ok (.iconst 1, 1) := by decide +kernel
theorem dX10_seek_69 : decode cX10_seek 69 = .ok (.goto 4, 3) := by decide +kernel
theorem dX10_seek_72 : decode cX10_seek 72 = .ok (.iconst 0, 1) := by decide +kernel
theorem dX10_seek_73 : decode cX10_seek 73 = .ok (.invokevirtual 45, 3) := by decide +kernel
theorem dX10_seek_76 : decode cX10_seek 76 = .ok (.ifCond .eq 31, 3) := by decide +kernel
theorem dX10_seek_79 : decode cX10_seek 79 = .ok (.aload_n 0, 1) := by decide +kernel
theorem dX10_seek_80 : decode cX10_seek 80 = .ok (.getfield 21, 3) := by decide +kernel
theorem dX10_seek_83 : decode cX10_seek 83 = .ok (.aload_n 0, 1) := by decide +kernel
theorem dX10_seek_84 : decode cX10_seek 84 = .ok (.getfield 24, 3) := by decide +kernel
theorem dX10_seek_87 : decode cX10_seek 87 = .ok (.sipush 240, 3) := by decide +kernel
theorem dX10_seek_90 : decode cX10_seek 90 = .ok (.iload 4, 2) := by decide +kernel
theorem dX10_seek_92 : decode cX10_seek 92 = .ok (.imul, 1) := by decide +kernel
theorem dX10_seek_93 : decode cX10_seek 93 = .ok (.iload 5, 2) := by decide +kernel
theorem dX10_seek_95 : decode cX10_seek 95 = .ok (.iadd, 1) := by decide +kernel
theorem dX10_seek_96 : decode cX10_seek 96 = .ok (.iastore, 1) := by decide +kernel
theorem dX10_seek_97 : decode cX10_seek 97 = .ok (.aload_n 0, 1) := by decide +kernel
theorem dX10_seek_98 : decode cX10_seek 98 = .ok (.dup, 1) := by decide +kernel
theorem dX10_seek_99 : decode cX10_seek 99 = .ok (.getfield 24, 3) := by decide +kernel
theorem dX10_seek_102 : decode cX10_seek 102 = .ok (.iconst 1, 1) := by decide +kernel
theorem dX10_seek_103 : decode cX10_seek 103 = .ok (.iadd, 1) := by decide +kernel
theorem dX10_seek_104 : decode cX10_seek 104 = .ok (.putfield 24, 3) := by decide +kernel
theorem dX10_seek_107 : decode cX10_seek 107 = .ok (.iinc 5 1, 3) := by decide +kernel
theorem dX10_seek_110 : decode cX10_seek 110 = .ok (.goto (-68), 3) := by decide +kernel
theorem dX10_seek_113 : decode cX10_seek 113 = .ok (.iinc 4 1, 3) := by decide +kernel
theorem dX10_seek_116 : decode cX10_seek 116 = .ok (.goto (-83), 3) := by decide +kernel
theorem dX10_seek_119 : decode cX10_seek 119 = .ok (.return_, 1) := by decide +kernel
theorem dX10_fits_0 : decode cX10_fits 0 = .ok (.aload_n 0, 1) := by decide +kernel
theorem dX10_fits_1 : decode cX10_fits 1 = .ok (.getfield 18, 3) := by decide +kernel
theorem dX10_fits_4 : decode cX10_fits 4 = .ok (.iconst (-1), 1) := by decide +kernel
theorem dX10_fits_5 : decode cX10_fits 5 = .ok (.invokestatic 49, 3) := by decide +kernel
theorem dX10_fits_8 : decode cX10_fits 8 = .ok (.aload_n 0, 1) := by decide +kernel
theorem dX10_fits_9 : decode cX10_fits 9 = .ok (.iconst 0, 1) := by decide +kernel
theorem dX10_fits_10 : decode cX10_fits 10 = .ok (.iload 4, 2) := by decide +kernel
theorem dX10_fits_12 : decode cX10_fits 12 = .ok (.invokevirtual 55, 3) := by decide +kernel
theorem dX10_fits_15 : decode cX10_fits 15 = .ok (.iconst 1, 1) := by decide +kernel
theorem dX10_fits_16 : decode cX10_fits 16 = .ok (.istore 6, 2) := by decide +kernel
theorem dX10_fits_18 : decode cX10_fits 18 = .ok (.iload 6, 2) := by decide +kernel
theorem dX10_fits_20 : decode cX10_fits 20 = .ok (.iload_n 1, 1) := by decide +kernel
theorem dX10_fits_21 : decode cX10_fits 21 = .ok (.if_icmp .ge 61, 3) := by decide +kernel
theorem dX10_fits_24 : decode cX10_fits 24 = .ok (.aload_n 2, 1) := by decide +kernel
theorem dX10_fits_25 : decode cX10_fits 25 = .ok (.iload 6, 2) := by decide +kernel
theorem dX10_fits_27 : decode cX10_fits 27 = .ok (.invokevirtual 59, 3) := by decide +kernel
theorem dX10_fits_30 : decode cX10_fits 30 = .ok (.istore 7, 2) := by decide +kernel
theorem dX10_fits_32 : decode cX10_fits 32 = .ok (.aload_n 0, 1) := by decide +kernel
theorem dX10_fits_33 : decode cX10_fits 33 = .ok (.aload_n 3, 1) := by decide +kernel
theorem dX10_fits_34 : decode cX10_fits 34 = .ok (.aload_n 2, 1) := by decide +kernel
theorem dX10_fits_35 : decode cX10_fits 35 = .ok (.iload 7, 2) := by decide +kernel
theorem dX10_fits_37 : decode cX10_fits 37 = .ok (.invokevirtual 63, 3) := by decide +kernel
theorem dX10_fits_40 : decode cX10_fits 40 = .ok (.aload_n 2, 1) := by decide +kernel
theorem dX10_fits_41 : decode cX10_fits 41 = .ok (.iload 7, 2) := by decide +kernel
theorem dX10_fits_43 : decode cX10_fits 43 = .ok (.invokevirtual 66, 3) := by decide +kernel
theorem dX10_fits_46 : decode cX10_fits 46 = .ok (.iload 5, 2) := by decide +kernel
theorem dX10_fits_48 : decode cX10_fits 48 = .ok (.invokevirtual 69, 3) := by decide +kernel
theorem dX10_fits_51 : decode cX10_fits 51 = .ok (.istore 8, 2) := by decide +kernel
theorem dX10_fits_53 : decode cX10_fits 53 = .ok (.aload_n 0, 1) := by decide +kernel
theorem dX10_fits_54 : decode cX10_fits 54 = .ok (.getfield 18, 3) := by decide +kernel
theorem dX10_fits_57 : decode cX10_fits 57 = .ok (.iload 8, 2) := by decide +kernel
theorem dX10_fits_59 : decode cX10_fits 59 = .ok (.iconst 2, 1) := by decide +kernel
theorem dX10_fits_60 : decode cX10_fits 60 = .ok (.ishr, 1) := by decide +kernel
theorem dX10_fits_61 : decode cX10_fits 61 = .ok (.iaload, 1) := by decide +kernel
theorem dX10_fits_62 : decode cX10_fits 62 = .ok (.iconst (-1), 1) := by decide +kernel
theorem dX10_fits_63 : decode cX10_fits 63 = .ok (.if_icmp .eq 5, 3) := by decide +kernel
theorem dX10_fits_66 : decode cX10_fits 66 = .ok (.iconst 0, 1) := by decide +kernel
theorem dX10_fits_67 : decode cX10_fits 67 = .ok (.ireturn, 1) := by decide +kernel
theorem dX10_fits_68 : decode cX10_fits 68 = .ok (.aload_n 0, 1) := by decide +kernel
theorem dX10_fits_69 : decode cX10_fits 69 = .ok (.iload 7, 2) := by decide +kernel
theorem dX10_fits_71 : decode cX10_fits 71 = .ok (.iload 8, 2) := by decide +kernel
theorem dX10_fits_73 : decode cX10_fits 73 = .ok (.invokevirtual 55, 3) := by decide +kernel
theorem dX10_fits_76 : decode cX10_fits 76 = .ok (.iinc 6 1, 3) := by decide +kernel
theorem dX10_fits_79 : decode cX10_fits 79 = .ok (.goto (-61), 3) := by decide +kernel
theorem dX10_fits_82 : decode cX10_fits 82 = .ok (.iconst 0, 1) := by decide +kernel
theorem dX10_fits_83 : decode cX10_fits 83 = .ok (.istore 6, 2) := by decide +kernel
theorem dX10_fits_85 : decode cX10_fits 85 = .ok (.iload 6, 2) := by decide +kernel
theorem dX10_fits_87 : decode cX10_fits 87 = .ok (.iload_n 1, 1) := by decide +kernel
theorem dX10_fits_88 : decode cX10_fits 88 = .ok (.if_icmp .ge 72, 3) := by decide +kernel
theorem dX10_fits_91 : decode cX10_fits 91 = .ok (.iconst 0, 1) := by decide +kernel
theorem dX10_fits_92 : decode cX10_fits 92 = .ok (.istore 7, 2) := by decide +kernel
theorem dX10_fits_94 : decode cX10_fits 94 = .ok (.iload 7, 2) := by decide +kernel
theorem dX10_fits_96 : decode cX10_fits 96 = .ok (.iconst 2, 1) := by decide +kernel
theorem dX10_fits_97 : decode cX10_fits 97 = .ok (.if_icmp .ge 57, 3) := by decide +kernel
theorem dX10_fits_100 : decode cX10_fits 100 = .ok (.aload_n 2, 1) := by decide +kernel
theorem dX10_fits_101 : decode cX10_fits 101 = .ok (.iload 6, 2) := by decide +kernel
theorem dX10_fits_103 : decode cX10_fits 103 = .ok (.iload 7, 2) := by decide +kernel
theorem dX10_fits_105 : decode cX10_fits 105 = .ok (.invokevirtual 73, 3) := by decide +kernel
theorem dX10_fits_108 : decode cX10_fits 108 = .ok (.istore 8, 2) := by decide +kernel
theorem dX10_fits_110 : decode cX10_fits 110 = .ok (.iload 8, 2) := by decide +kernel
theorem dX10_fits_112 : decode cX10_fits 112 = .ok (.ifCond .lt 36, 3) := by decide +kernel
theorem dX10_fits_115 : decode cX10_fits 115 = .ok (.aload_n 0, 1) := by decide +kernel
theorem dX10_fits_116 : decode cX10_fits 116 = .ok (.aload_n 3, 1) := by decide +kernel
theorem dX10_fits_117 : decode cX10_fits 117 = .ok (.iload 6, 2) := by decide +kernel
theorem dX10_fits_119 : decode cX10_fits 119 = .ok (.iload 7, 2) := by decide +kernel
theorem dX10_fits_121 : decode cX10_fits 121 = .ok (.iload 5, 2) := by decide +kernel
theorem dX10_fits_123 : decode cX10_fits 123 = .ok (.invokevirtual 69, 3) := by decide +kernel
theorem dX10_fits_126 : decode cX10_fits 126 = .ok (.iconst 4, 1) := by decide +kernel
theorem dX10_fits_127 : decode cX10_fits 127 = .ok (.aload_n 0, 1) := by decide +kernel
theorem dX10_fits_128 : decode cX10_fits 128 = .ok (.getfield 9, 3) := by decide +kernel
theorem dX10_fits_131 : decode cX10_fits 131 = .ok (.iload 8, 2) := by decide +kernel
theorem dX10_fits_133 : decode cX10_fits 133 = .ok (.iaload, 1) := by decide +kernel
theorem dX10_fits_134 : decode cX10_fits 134 = .ok (.imul, 1) := by decide +kernel
theorem dX10_fits_135 : decode cX10_fits 135 = .ok (.aload_n 0, 1) := by decide +kernel
theorem dX10_fits_136 : decode cX10_fits 136 = .ok (.getfield 15, 3) := by decide +kernel
theorem dX10_fits_139 : decode cX10_fits 139 = .ok (.iload 8, 2) := by decide +kernel
theorem dX10_fits_141 : decode cX10_fits 141 = .ok (.iaload, 1) := by decide +kernel
theorem dX10_fits_142 : decode cX10_fits 142 = .ok (.iadd, 1) := by decide +kernel
theorem dX10_fits_143 : decode cX10_fits 143 = .ok (.if_icmp .eq 5, 3) := by decide +kernel
theorem dX10_fits_146 : decode cX10_fits 146 = .ok (.iconst 0, 1) := by decide +kernel
theorem dX10_fits_147 : decode cX10_fits 147 = .ok (.ireturn, 1) := by decide +kernel
theorem dX10_fits_148 : decode cX10_fits 148 = .ok (.iinc 7 1, 3) := by decide +kernel
theorem dX10_fits_151 : decode cX10_fits 151 = .ok (.goto (-57), 3) := by decide +kernel
theorem dX10_fits_154 : decode cX10_fits 154 = .ok (.iinc 6 1, 3) := by decide +kernel
theorem dX10_fits_157 : decode cX10_fits 157 = .ok (.goto (-72), 3) := by decide +kernel
theorem dX10_fits_160 : decode cX10_fits 160 = .ok (.iconst 1, 1) := by decide +kernel
theorem dX10_fits_161 : decode cX10_fits 161 = .ok (.ireturn, 1) := by decide +kernel
theorem dX10_lay_0 : decode cX10_lay 0 = .ok (.aload_n 0, 1) := by decide +kernel
theorem dX10_lay_1 : decode cX10_lay 1 = .ok (.getfield 9, 3) := by decide +kernel
theorem dX10_lay_4 : decode cX10_lay 4 = .ok (.iload_n 1, 1) := by decide +kernel
theorem dX10_lay_5 : decode cX10_lay 5 = .ok (.iload_n 2, 1) := by decide +kernel
theorem dX10_lay_6 : decode cX10_lay 6 = .ok (.iconst 2, 1) := by decide +kernel
theorem dX10_lay_7 : decode cX10_lay 7 = .ok (.ishr, 1) := by decide +kernel
theorem dX10_lay_8 : decode cX10_lay 8 = .ok (.iastore, 1) := by decide +kernel
theorem dX10_lay_9 : decode cX10_lay 9 = .ok (.aload_n 0, 1) := by decide +kernel
theorem dX10_lay_10 : decode cX10_lay 10 = .ok (.getfield 15, 3) := by decide +kernel
theorem dX10_lay_13 : decode cX10_lay 13 = .ok (.iload_n 1, 1) := by decide +kernel
theorem dX10_lay_14 : decode cX10_lay 14 = .ok (.iload_n 2, 1) := by decide +kernel
theorem dX10_lay_15 : decode cX10_lay 15 = .ok (.iconst 3, 1) := by decide +kernel
theorem dX10_lay_16 : decode cX10_lay 16 = .ok (.iand, 1) := by decide +kernel
theorem dX10_lay_17 : decode cX10_lay 17 = .ok (.iastore, 1) := by decide +kernel
theorem dX10_lay_18 : decode cX10_lay 18 = .ok (.aload_n 0, 1) := by decide +kernel
theorem dX10_lay_19 : decode cX10_lay 19 = .ok (.getfield 18, 3) := by decide +kernel
theorem dX10_lay_22 : decode cX10_lay 22 = .ok (.iload_n 2, 1) := by decide +kernel
theorem dX10_lay_23 : decode cX10_lay 23 = .ok (.iconst 2, 1) := by decide +kernel
theorem dX10_lay_24 : decode cX10_lay 24 = .ok (.ishr, 1) := by decide +kernel
theorem dX10_lay_25 : decode cX10_lay 25 = .ok (.iload_n 1, 1) := by decide +kernel
theorem dX10_lay_26 : decode cX10_lay 26 = .ok (.iastore, 1) := by decide +kernel
theorem dX10_lay_27 : decode cX10_lay 27 = .ok (.return_, 1) := by decide +kernel
theorem dX10_landing_0 : decode cX10_landing 0 = .ok (.iload 4, 2) := by decide +kernel
theorem dX10_landing_2 : decode cX10_landing 2 = .ok (.ifCond .eq 10, 3) := by decide +kernel
theorem dX10_landing_5 : decode cX10_landing 5 = .ok (.iload_n 3, 1) := by decide +kernel
theorem dX10_landing_6 : decode cX10_landing 6 = .ok (.invokestatic 77, 3) := by decide +kernel
theorem dX10_landing_9 : decode cX10_landing 9 = .ok (.goto 4, 3) := by decide +kernel
theorem dX10_landing_12 : decode cX10_landing 12 = .ok (.iload_n 3, 1) := by decide +kernel
theorem dX10_landing_13 : decode cX10_landing 13 = .ok (.istore 5, 2) := by decide +kernel
theorem dX10_landing_15 : decode cX10_landing 15 = .ok (.iload 5, 2) := by decide +kernel
theorem dX10_landing_17 : decode cX10_landing 17 = .ok (.aload_n 0, 1) := by decide +kernel
theorem dX10_landing_18 : decode cX10_landing 18 = .ok (.getfield 15, 3) := by decide +kernel
theorem dX10_landing_21 : decode cX10_landing 21 = .ok (.iload_n 2, 1) := by decide +kernel
theorem dX10_landing_22 : decode cX10_landing 22 = .ok (.iaload, 1) := by decide +kernel
theorem dX10_landing_23 : decode cX10_landing 23 = .ok (.isub, 1) := by decide +kernel
theorem dX10_landing_24 : decode cX10_landing 24 = .ok (.iconst 3, 1) := by decide +kernel
theorem dX10_landing_25 : decode cX10_landing 25 = .ok (.iand, 1) := by decide +kernel
theorem dX10_landing_26 : decode cX10_landing 26 = .ok (.istore 6, 2) := by decide +kernel
theorem dX10_landing_28 : decode cX10_landing 28 = .ok (.iload 5, 2) := by decide +kernel
theorem dX10_landing_30 : decode cX10_landing 30 = .ok (.iconst 2, 1) := by decide +kernel
theorem dX10_landing_31 : decode cX10_landing 31 = .ok (.iadd, 1) := by decide +kernel
theorem dX10_landing_32 : decode cX10_landing 32 = .ok (.aload_n 1, 1) := by decide +kernel
theorem dX10_landing_33 : decode cX10_landing 33 = .ok (.aload_n 0, 1) := by decide +kernel
theorem dX10_landing_34 : decode cX10_landing 34 = .ok (.getfield 9, 3) := by decide +kernel
theorem dX10_landing_37 : decode cX10_landing 37 = .ok (.iload_n 2, 1) := by decide +kernel
theorem dX10_landing_38 : decode cX10_landing 38 = .ok (.iaload, 1) := by decide +kernel
theorem dX10_landing_39 : decode cX10_landing 39 = .ok (.iload 6, 2) := by decide +kernel
theorem dX10_landing_41 : decode cX10_landing 41 = .ok (.invokevirtual 80, 3) := by decide +kernel
theorem dX10_landing_44 : decode cX10_landing 44 = .ok (.isub, 1) := by decide +kernel
theorem dX10_landing_45 : decode cX10_landing 45 = .ok (.iconst 3, 1) := by decide +kernel
theorem dX10_landing_46 : decode cX10_landing 46 = .ok (.iand, 1) := by decide +kernel
theorem dX10_landing_47 : decode cX10_landing 47 = .ok (.istore 7, 2) := by decide +kernel
theorem dX10_landing_49 : decode cX10_landing 49 = .ok (.iconst 4, 1) := by decide +kernel
theorem dX10_landing_50 : decode cX10_landing 50 = .ok (.aload_n 1, 1) := by decide +kernel
theorem dX10_landing_51 : decode cX10_landing 51 = .ok (.aload_n 0, 1) := by decide +kernel
theorem dX10_landing_52 : decode cX10_landing 52 = .ok (.getfield 9, 3) := by decide +kernel
theorem dX10_landing_55 : decode cX10_landing 55 = .ok (.iload_n 2, 1) := by decide +kernel
theorem dX10_landing_56 : decode cX10_landing 56 = .ok (.iaload, 1) := by decide +kernel
theorem dX10_landing_57 : decode cX10_landing 57 = .ok (.iload 6, 2) := by decide +kernel
theorem dX10_landing_59 : decode cX10_landing 59 = .ok (.invokevirtual 83, 3) := by decide +kernel
theorem dX10_landing_62 : decode cX10_landing 62 = .ok (.imul, 1) := by decide +kernel
theorem dX10_landing_63 : decode cX10_landing 63 = .ok (.iload 7, 2) := by decide +kernel
theorem dX10_landing_65 : decode cX10_landing 65 = .ok (.iadd, 1) := by decide +kernel
theorem dX10_landing_66 : decode cX10_landing 66 = .ok (.ireturn, 1) := by decide +kernel
theorem dX11_init_0 : decode cX11_init 0 = .ok (.aload_n 0, 1) := by decide +kernel
theorem dX11_init_1 : decode cX11_init 1 = .ok (.invokespecial 1, 3) := by decide +kernel
theorem dX11_init_4 : decode cX11_init 4 = .ok (.aload_n 0, 1) := by decide +kernel
theorem dX11_init_5 : decode cX11_init 5 = .ok (.new 7, 3) := by decide +kernel
theorem dX11_init_8 : decode cX11_init 8 = .ok (.dup, 1) := by decide +kernel
theorem dX11_init_9 : decode cX11_init 9 = .ok (.invokespecial 9, 3) := by decide +kernel
theorem dX11_init_12 : decode cX11_init 12 = .ok (.putfield 10, 3) := by decide +kernel
theorem dX11_init_15 : decode cX11_init 15 = .ok (.aload_n 0, 1) := by decide +kernel
theorem dX11_init_16 : decode cX11_init 16 = .ok (.new 16, 3) := by decide +kernel
theorem dX11_init_19 : decode cX11_init 19 = .ok (.dup, 1) := by decide +kernel
theorem dX11_init_20 : decode cX11_init 20 = .ok (.invokespecial 18, 3) := by decide +kernel
theorem dX11_init_23 : decode cX11_init 23 = .ok (.putfield 19, 3) := by decide +kernel
theorem dX11_init_26 : decode cX11_init 26 = .ok (.aload_n 0, 1) := by decide +kernel
theorem dX11_init_27 : decode cX11_init 27 = .ok (.bipush 6, 2) := by decide +kernel
theorem dX11_init_29 : decode cX11_init 29 = .ok (.anewarray 23, 3) := by decide +kernel
theorem dX11_init_32 : decode cX11_init 32 = .ok (.putfield 25, 3) := by decide +kernel
theorem dX11_init_35 : decode cX11_init 35 = .ok (.iconst 0, 1) := by decide +kernel
theorem dX11_init_36 : decode cX11_init 36 = .ok (.istore_n 1, 1) := by decide +kernel
theorem dX11_init_37 : decode cX11_init 37 = .ok (.iload_n 1, 1) := by decide +kernel
theorem dX11_init_38 : decode cX11_init 38 = .ok (.bipush 6, 2) := by decide +kernel
theorem dX11_init_40 : decode cX11_init 40 = .ok (.if_icmp .ge 22, 3) := by decide +kernel
theorem dX11_init_43 : decode cX11_init 43 = .ok (.aload_n 0, 1) := by decide +kernel
theorem dX11_init_44 : decode cX11_init 44 = .ok (.getfield 25, 3) := by decide +kernel
theorem dX11_init_47 : decode cX11_init 47 = .ok (.iload_n 1, 1) := by decide +kernel
theorem dX11_init_48 : decode cX11_init 48 = .ok (.new 23, 3) := by decide +kernel
theorem dX11_init_51 : decode cX11_init 51 = .ok (.dup, 1) := by decide +kernel
theorem dX11_init_52 : decode cX11_init 52 = .ok (.invokespecial 29, 3) := by decide +kernel
theorem dX11_init_55 : decode cX11_init 55 = .ok (.aastore, 1) := by decide +kernel
theorem dX11_init_56 : decode cX11_init 56 = .ok (.iinc 1 1, 3) := by decide +kernel
theorem dX11_init_59 : decode cX11_init 59 = .ok (.goto (-22), 3) := by decide +kernel
theorem dX11_init_62 : decode cX11_init 62 = .ok (.aload_n 0, 1) := by decide +kernel
theorem dX11_init_63 : decode cX11_init 63 = .ok (.new 30, 3) := by decide +kernel
theorem dX11_init_66 : decode cX11_init 66 = .ok (.dup, 1) := by decide +kernel
theorem dX11_init_67 : decode cX11_init 67 = .ok (.invokespecial 32, 3) := by decide +kernel
theorem dX11_init_70 : decode cX11_init 70 = .ok (.putfield 33, 3) := by decide +kernel
theorem dX11_init_73 : decode cX11_init 73 = .ok (.aload_n 0, 1) := by decide +kernel
theorem dX11_init_74 : decode cX11_init 74 = .ok (.new 37, 3) := by decide +kernel
theorem dX11_init_77 : decode cX11_init 77 = .ok (.dup, 1) := by decide +kernel
theorem dX11_init_78 : decode cX11_init 78 = .ok (.invokespecial 39, 3) := by decide +kernel
theorem dX11_init_81 : decode cX11_init 81 = .ok (.putfield 40, 3) := by decide +kernel
theorem dX11_init_84 : decode cX11_init 84 = .ok (.aload_n 0, 1) := by decide +kernel
theorem dX11_init_85 : decode cX11_init 85 = .ok (.new 44, 3) := by decide +kernel
theorem dX11_init_88 : decode cX11_init 88 = .ok (.dup, 1) := by decide +kernel
theorem dX11_init_89 : decode cX11_init 89 = .ok (.invokespecial 46, 3) := by decide +kernel
theorem dX11_init_92 : decode cX11_init 92 = .ok (.putfield 47, 3) := by decide +kernel
theorem dX11_init_95 : decode cX11_init 95 = .ok (.aload_n 0, 1) := by decide +kernel
theorem dX11_init_96 : decode cX11_init 96 = .ok (.new 51, 3) := by decide +kernel
theorem dX11_init_99 : decode cX11_init 99 = .ok (.dup, 1) := by decide +kernel
theorem dX11_init_100 : decode cX11_init 100 = .ok (.invokespecial 53, 3) := by decide +kernel
theorem dX11_init_103 : decode cX11_init 103 = .ok (.putfield 54, 3) := by decide +kernel
theorem dX11_init_106 : decode cX11_init 106 = .ok (.aload_n 0, 1) := by decide +kernel
theorem dX11_init_107 : decode cX11_init 107 = .ok (.new 58, 3) := by decide +kernel
theorem dX11_init_110 : decode cX11_init 110 = .ok (.dup, 1) := by decide +kernel
theorem dX11_init_111 : decode cX11_init 111 = .ok (.invokespecial 60, 3) := by decide +kernel
theorem dX11_init_114 : decode cX11_init 114 = .ok (.putfield 61, 3) := by decide +kernel
theorem dX11_init_117 : decode cX11_init 117 = .ok (.aload_n 0, 1) := by decide +kernel
theorem dX11_init_118 : decode cX11_init 118 = .ok (.new 65, 3) := by decide +kernel
theorem dX11_init_121 : decode cX11_init 121 = .ok (.dup, 1) := by decide +kernel
theorem dX11_init_122 : decode cX11_init 122 = .ok (.invokespecial 67, 3) := by decide +kernel
theorem dX11_init_125 : decode cX11_init 125 = .ok (.putfield 68, 3) := by decide +kernel
theorem dX11_init_128 : decode cX11_init 128 = .ok (.aload_n 0, 1) := by decide +kernel
theorem dX11_init_129 : decode cX11_init 129 = .ok (.new 65, 3) := by decide +kernel
theorem dX11_init_132 : decode cX11_init 132 = .ok (.dup, 1) := by decide +kernel
theorem dX11_init_133 : decode cX11_init 133 = .ok (.invokespecial 67, 3) := by decide +kernel
theorem dX11_init_136 : decode cX11_init 136 = .ok (.putfield 72, 3) := by decide +kernel
theorem dX11_init_139 : decode cX11_init 139 = .ok (.aload_n 0, 1) := by decide +kernel
theorem dX11_init_140 : decode cX11_init 140 = .ok (.new 23, 3) := by decide +kernel
theorem dX11_init_143 : decode cX11_init 143 = .ok (.dup, 1) := by decide +kernel
theorem dX11_init_144 : decode cX11_init 144 = .ok (.invokespecial 29, 3) := by decide +kernel
theorem dX11_init_147 : decode cX11_init 147 = .ok (.putfield 75, 3) := by decide +kernel
theorem dX11_init_150 : decode cX11_init 150 = .ok (.return_, 1) := by decide +kernel
theorem dX11_layer_0 : decode cX11_layer 0 = .ok (.iload_n 1, 1) := by decide +kernel
theorem dX11_layer_1 : decode cX11_layer 1 = .ok (.invokestatic 79, 3) := by decide +kernel
theorem dX11_layer_4 : decode cX11_layer 4 = .ok (.ifCond .ne 6, 3) := by decide +kernel
theorem dX11_layer_7 : decode cX11_layer 7 = .ok (.bipush (-3), 2) := by decide +kernel
theorem dX11_layer_9 : decode cX11_layer 9 = .ok (.ireturn, 1) := by decide +kernel
theorem dX11_layer_10 : decode cX11_layer 10 = .ok (.aload_n 0, 1) := by decide +kernel
theorem dX11_layer_11 : decode cX11_layer 11 = .ok (.getfield 19, 3) := by decide +kernel
theorem dX11_layer_14 : decode cX11_layer 14 = .ok (.aload_n 0, 1) := by decide +kernel
theorem dX11_layer_15 : decode cX11_layer 15 = .ok (.getfield 10, 3) := by decide +kernel
theorem dX11_layer_18 : decode cX11_layer 18 = .ok (.invokevirtual 83, 3) := by decide +kernel
theorem dX11_layer_21 : decode cX11_layer 21 = .ok (.aload_n 0, 1) := by decide +kernel
theorem dX11_layer_22 : decode cX11_layer 22 = .ok (.getfield 10, 3) := by decide +kernel
theorem dX11_layer_25 : decode cX11_layer 25 = .ok (.getfield 87, 3) := by decide +kernel
theorem dX11_layer_28 : decode cX11_layer 28 = .ok (.iload_n 1, 1) := by decide +kernel
theorem dX11_layer_29 : decode cX11_layer 29 = .ok (.iload_n 2, 1) := by decide +kernel
theorem dX11_layer_30 : decode cX11_layer 30 = .ok (.invokevirtual 91, 3) := by decide +kernel
theorem dX11_layer_33 : decode cX11_layer 33 = .ok (.aload_n 0, 1) := by decide +kernel
theorem dX11_layer_34 : decode cX11_layer 34 = .ok (.invokevirtual 97, 3) := by decide +kernel
theorem dX11_layer_37 : decode cX11_layer 37 = .ok (.aload_n 0, 1) := by decide +kernel
theorem dX11_layer_38 : decode cX11_layer 38 = .ok (.getfield 10, 3) := by decide +kernel
theorem dX11_layer_41 : decode cX11_layer 41 = .ok (.getfield 87, 3) := by decide +kernel
theorem dX11_layer_44 : decode cX11_layer 44 = .ok (.iload_n 1, 1) := by decide +kernel
theorem dX11_layer_45 : decode cX11_layer 45 = .ok (.invokevirtual 100, 3) := by decide +kernel
theorem dX11_layer_48 : decode cX11_layer 48 = .ok (.ireturn, 1) := by decide +kernel
theorem dX11_lose_0 : decode cX11_lose 0 = .ok (.iload_n 1, 1) := by decide +kernel
theorem dX11_lose_1 : decode cX11_lose 1 = .ok (.invokestatic 79, 3) := by decide +kernel
theorem dX11_lose_4 : decode cX11_lose 4 = .ok (.ifCond .ne 6, 3) := by decide +kernel
theorem dX11_lose_7 : decode cX11_lose 7 = .ok (.bipush (-3), 2) := by decide +kernel
theorem dX11_lose_9 : decode cX11_lose 9 = .ok (.ireturn, 1) := by decide +kernel
theorem dX11_lose_10 : decode cX11_lose 10 = .ok (.aload_n 0, 1) := by decide +kernel
theorem dX11_lose_11 : decode cX11_lose 11 = .ok (.getfield 10, 3) := by decide +kernel
theorem dX11_lose_14 : decode cX11_lose 14 = .ok (.getfield 87, 3) := by decide +kernel
theorem dX11_lose_17 : decode cX11_lose 17 = .ok (.iload_n 1, 1) := by decide +kernel
theorem dX11_lose_18 : decode cX11_lose 18 = .ok (.invokevirtual 104, 3) := by decide +kernel
theorem dX11_lose_21 : decode cX11_lose 21 = .ok (.ifCond .eq 6, 3) := by decide +kernel
theorem dX11_lose_24 : decode cX11_lose 24 = .ok (.bipush (-11), 2) := by decide +kernel
theorem dX11_lose_26 : decode cX11_lose 26 = .ok (.ireturn, 1) := by decide +kernel
theorem dX11_lose_27 : decode cX11_lose 27 = .ok (.aload_n 0, 1) := by decide +kernel
theorem dX11_lose_28 : decode cX11_lose 28 = .ok (.getfield 19, 3) := by decide +kernel
theorem dX11_lose_31 : decode cX11_lose 31 = .ok (.aload_n 0, 1) := by decide +kernel
theorem dX11_lose_32 : decode cX11_lose 32 = .ok (.getfield 10, 3) := by decide +kernel
theorem dX11_lose_35 : decode cX11_lose 35 = .ok (.invokevirtual 83, 3) := by decide +kernel
theorem dX11_lose_38 : decode cX11_lose 38 = .ok (.aload_n 0, 1) := by decide +kernel
theorem dX11_lose_39 : decode cX11_lose 39 = .ok (.getfield 10, 3) := by decide +kernel
theorem dX11_lose_42 : decode cX11_lose 42 = .ok (.getfield 87, 3) := by decide +kernel
theorem dX11_lose_45 : decode cX11_lose 45 = .ok (.iload_n 1, 1) := by decide +kernel
theorem dX11_lose_46 : decode cX11_lose 46 = .ok (.invokevirtual 100, 3) := by decide +kernel
theorem dX11_lose_49 : decode cX11_lose 49 = .ok (.istore_n 2, 1) := by decide +kernel
theorem dX11_lose_50 : decode cX11_lose 50 = .ok (.aload_n 0, 1) := by decide +kernel
theorem dX11_lose_51 : decode cX11_lose 51 = .ok (.getfield 10, 3) := by decide +kernel
theorem dX11_lose_54 : decode cX11_lose 54 = .ok (.getfield 87, 3) := by decide +kernel
theorem dX11_lose_57 : decode cX11_lose 57 = .ok (.iload_n 1, 1) := by decide +kernel
theorem dX11_lose_58 : decode cX11_lose 58 = .ok (.invokevirtual 107, 3) := by decide +kernel
theorem dX11_lose_61 : decode cX11_lose 61 = .ok (.aload_n 0, 1) := by decide +kernel
theorem dX11_lose_62 : decode cX11_lose 62 = .ok (.invokevirtual 97, 3) := by decide +kernel
theorem dX11_lose_65 : decode cX11_lose 65 = .ok (.iload_n 2, 1) := by decide +kernel
theorem dX11_lose_66 : decode cX11_lose 66 = .ok (.ireturn, 1) := by decide +kernel
theorem dX11_cube_0 : decode cX11_cube 0 = .ok (.iload_n 1, 1) := by decide +kernel
theorem dX11_cube_1 : decode cX11_cube 1 = .ok (.invokestatic 79, 3) := by decide +kernel
theorem dX11_cube_4 : decode cX11_cube 4 = .ok (.ifCond .eq 10, 3) := by decide +kernel
theorem dX11_cube_7 : decode cX11_cube 7 = .ok (.iload_n 3, 1) := by decide +kernel
theorem dX11_cube_8 : decode cX11_cube 8 = .ok (.invokestatic 111, 3) := by decide +kernel
theorem dX11_cube_11 : decode cX11_cube 11 = .ok (.ifCond .ne 6, 3) := by decide +kernel
theorem dX11_cube_14 : decode cX11_cube 14 = .ok (.bipush (-3), 2) := by decide +kernel
theorem dX11_cube_16 : decode cX11_cube 16 = .ok (.ireturn, 1) := by decide +kernel
theorem dX11_cube_17 : decode cX11_cube 17 = .ok (.aload_n 0, 1) := by decide +kernel
theorem dX11_cube_18 : decode cX11_cube 18 = .ok (.getfield 10, 3) := by decide +kernel
theorem dX11_cube_21 : decode cX11_cube 21 = .ok (.getfield 87, 3) := by decide +kernel
theorem dX11_cube_24 : decode cX11_cube 24 = .ok (.iload_n 1, 1) := by decide +kernel
theorem dX11_cube_25 : decode cX11_cube 25 = .ok (.invokevirtual 104, 3) := by decide +kernel
theorem dX11_cube_28 : decode cX11_cube 28 = .ok (.ifCond .eq 6, 3) := by decide +kernel
theorem dX11_cube_31 : decode cX11_cube 31 = .ok (.bipush (-11), 2) := by decide +kernel
theorem dX11_cube_33 : decode cX11_cube 33 = .ok (.ireturn, 1) := by decide +kernel
theorem dX11_cube_34 : decode cX11_cube 34 = .ok (.iload_n 2, 1) := by decide +kernel
theorem dX11_cube_35 : decode cX11_cube 35 = .ok (.iconst 1, 1) := by decide +kernel
theorem dX11_cube_36 : decode cX11_cube 36 = .ok (.invokestatic 114, 3) := by decide +kernel
theorem dX11_cube_39 : decode cX11_cube 39 = .ok (.ifCond .ne 6, 3) := by decide +kernel
theorem dX11_cube_42 : decode cX11_cube 42 = .ok (.bipush (-13), 2) := by decide +kernel
theorem dX11_cube_44 : decode cX11_cube 44 = .ok (.ireturn, 1) := by decide +kernel
theorem dX11_cube_45 : decode cX11_cube 45 = .ok (.aload_n 0, 1) := by decide +kernel
theorem dX11_cube_46 : decode cX11_cube 46 = .ok (.getfield 19, 3) := by decide +kernel
theorem dX11_cube_49 : decode cX11_cube 49 = .ok (.aload_n 0, 1) := by decide +kernel
theorem dX11_cube_50 : decode cX11_cube 50 = .ok (.getfield 10, 3) := by decide +kernel
theorem dX11_cube_53 : decode cX11_cube 53 = .ok (.invokevirtual 83, 3) := by decide +kernel
theorem dX11_cube_56 : decode cX11_cube 56 = .ok (.aload_n 0, 1) := by decide +kernel
theorem dX11_cube_57 : decode cX11_cube 57 = .ok (.getfield 10, 3) := by decide +kernel
theorem dX11_cube_60 : decode cX11_cube 60 = .ok (.getfield 87, 3) := by decide +kernel
theorem dX11_cube_63 : decode cX11_cube 63 = .ok (.iload_n 1, 1) := by decide +kernel
theorem dX11_cube_64 : decode cX11_cube 64 = .ok (.invokevirtual 118, 3) := by decide +kernel
theorem dX11_cube_67 : decode cX11_cube 67 = .ok (.istore 4, 2) := by decide +kernel
theorem dX11_cube_69 : decode cX11_cube 69 = .ok (.iconst 1, 1) := by decide +kernel
theorem dX11_cube_70 : decode cX11_cube 70 = .ok (.iload_n 2, 1) := by decide +kernel
theorem dX11_cube_71 : decode cX11_cube 71 = .ok (.ishl, 1) := by decide +kernel
theorem dX11_cube_72 : decode cX11_cube 72 = .ok (.istore 5, 2) := by decide +kernel
theorem dX11_cube_74 : decode cX11_cube 74 = .ok (.aload_n 0, 1) := by decide +kernel
theorem dX11_cube_75 : decode cX11_cube 75 = .ok (.getfield 10, 3) := by decide +kernel
theorem dX11_cube_78 : decode cX11_cube 78 = .ok (.getfield 87, 3) := by decide +kernel
theorem dX11_cube_81 : decode cX11_cube 81 = .ok (.iload_n 1, 1) := by decide +kernel
theorem dX11_cube_82 : decode cX11_cube 82 = .ok (.iload_n 3, 1) := by decide +kernel
theorem dX11_cube_83 : decode cX11_cube 83 = .ok (.iconst 1, 1) := by decide +kernel
theorem dX11_cube_84 : decode cX11_cube 84 = .ok (.if_icmp .ne 11, 3) := by decide +kernel
theorem dX11_cube_87 : decode cX11_cube 87 = .ok (.iload 4, 2) := by decide +kernel
theorem dX11_cube_89 : decode cX11_cube 89 = .ok (.iload 5, 2) := by decide +kernel
theorem dX11_cube_91 : decode cX11_cube 91 = .ok (.ior, 1) := by decide +kernel
theorem dX11_cube_92 : decode cX11_cube 92 = .ok (.goto 10, 3) := by decide +kernel
theorem dX11_cube_95 : decode cX11_cube 95 = .ok (.iload 4, 2) := by decide +kernel
theorem dX11_cube_97 : decode cX11_cube 97 = .ok (.iload 5, 2) := by decide +kernel
theorem dX11_cube_99 : decode cX11_cube 99 = .ok (.iconst (-1), 1) := by decide +kernel
theorem dX11_cube_100 : decode cX11_cube 100 = .ok (.ixor, 1) := by decide +kernel
theorem dX11_cube_101 : decode cX11_cube 101 = .ok (.iand, 1) := by decide +kernel
theorem dX11_cube_102 : decode cX11_cube 102 = .ok (.invokevirtual 91, 3) := by decide +kernel
theorem dX11_cube_105 : decode cX11_cube 105 = .ok (.aload_n 0, 1) := by decide +kernel
theorem dX11_cube_106 : decode cX11_cube 106 = .ok (.invokevirtual 97, 3) := by decide +kernel
theorem dX11_cube_109 : decode cX11_cube 109 = .ok (.iload 4, 2) := by decide +kernel
theorem dX11_cube_111 : decode cX11_cube 111 = .ok (.iload 5, 2) := by decide +kernel
theorem dX11_cube_113 : decode cX11_cube 113 = .ok (.iand, 1) := by decide +kernel
theorem dX11_cube_114 : decode cX11_cube 114 = .ok (.ifCond .eq 7, 3) := by decide +kernel
theorem dX11_cube_117 : decode cX11_cube 117 = .ok (.iconst 1, 1) := by decide +kernel
theorem dX11_cube_118 : decode cX11_cube 118 = .ok (.goto 4, 3) := by decide +kernel
theorem dX11_cube_121 : decode cX11_cube 121 = .ok (.iconst 0, 1) := by decide +kernel
theorem dX11_cube_122 : decode cX11_cube 122 = .ok (.ireturn, 1) := by decide +kernel
theorem dX11_copy_0 : decode cX11_copy 0 = .ok (.iload_n 1, 1) := by decide +kernel
theorem dX11_copy_1 : decode cX11_copy 1 = .ok (.invokestatic 79, 3) := by decide +kernel
theorem dX11_copy_4 : decode cX11_copy 4 = .ok (.ifCond .eq 10, 3) := by decide +kernel
theorem dX11_copy_7 : decode cX11_copy 7 = .ok (.iload_n 3, 1) := by decide +kernel
theorem dX11_copy_8 : decode cX11_copy 8 = .ok (.invokestatic 79, 3) := by decide +kernel
theorem dX11_copy_11 : decode cX11_copy 11 = .ok (.ifCond .ne 6, 3) := by decide +kernel
theorem dX11_copy_14 : decode cX11_copy 14 = .ok (.bipush (-3), 2) := by decide +kernel
theorem dX11_copy_16 : decode cX11_copy 16 = .ok (.ireturn, 1) := by decide +kernel
theorem dX11_copy_17 : decode cX11_copy 17 = .ok (.aload_n 0, 1) := by decide +kernel
theorem dX11_copy_18 : decode cX11_copy 18 = .ok (.getfield 10, 3) := by decide +kernel
theorem dX11_copy_21 : decode cX11_copy 21 = .ok (.getfield 87, 3) := by decide +kernel
theorem dX11_copy_24 : decode cX11_copy 24 = .ok (.iload_n 1, 1) := by decide +kernel
theorem dX11_copy_25 : decode cX11_copy 25 = .ok (.invokevirtual 104, 3) := by decide +kernel
theorem dX11_copy_28 : decode cX11_copy 28 = .ok (.ifCond .ne 17, 3) := by decide +kernel
theorem dX11_copy_31 : decode cX11_copy 31 = .ok (.aload_n 0, 1) := by decide +kernel
theorem dX11_copy_32 : decode cX11_copy 32 = .ok (.getfield 10, 3) := by decide +kernel
theorem dX11_copy_35 : decode cX11_copy 35 = .ok (.getfield 87, 3) := by decide +kernel
theorem dX11_copy_38 : decode cX11_copy 38 = .ok (.iload_n 3, 1) := by decide +kernel
theorem dX11_copy_39 : decode cX11_copy 39 = .ok (.invokevirtual 104, 3) := by decide +kernel
theorem dX11_copy_42 : decode cX11_copy 42 = .ok (.ifCond .eq 6, 3) := by decide +kernel
theorem dX11_copy_45 : decode cX11_copy 45 = .ok (.bipush (-11), 2) := by decide +kernel
theorem dX11_copy_47 : decode cX11_copy 47 = .ok (.ireturn, 1) := by decide +kernel
theorem dX11_copy_48 : decode cX11_copy 48 = .ok (.iload_n 2, 1) := by decide +kernel
theorem dX11_copy_49 : decode cX11_copy 49 = .ok (.iload 5, 2) := by decide +kernel
theorem dX11_copy_51 : decode cX11_copy 51 = .ok (.invokestatic 114, 3) := by decide +kernel
theorem dX11_copy_54 : decode cX11_copy 54 = .ok (.ifCond .eq 13, 3) := by decide +kernel
theorem dX11_copy_57 : decode cX11_copy 57 = .ok (.iload 4, 2) := by decide +kernel
theorem dX11_copy_59 : decode cX11_copy 59 = .ok (.iload 5, 2) := by decide +kernel
theorem dX11_copy_61 : decode cX11_copy 61 = .ok (.invokestatic 114, 3) := by decide +kernel
theorem dX11_copy_64 : decode cX11_copy 64 = .ok (.ifCond .ne 6, 3) := by decide +kernel
theorem dX11_copy_67 : decode cX11_copy 67 = .ok (.bipush (-13), 2) := by decide +kernel
theorem dX11_copy_69 : decode cX11_copy 69 = .ok (.ireturn, 1) := by decide +kernel
theorem dX11_copy_70 : decode cX11_copy 70 = .ok (.aload_n 0, 1) := by decide +kernel
theorem dX11_copy_71 : decode cX11_copy 71 = .ok (.getfield 19, 3) := by decide +kernel
theorem dX11_copy_74 : decode cX11_copy 74 = .ok (.aload_n 0, 1) := by decide +kernel
theorem dX11_copy_75 : decode cX11_copy 75 = .ok (.getfield 10, 3) := by decide +kernel
theorem dX11_copy_78 : decode cX11_copy 78 = .ok (.invokevirtual 83, 3) := by decide +kernel
theorem dX11_copy_81 : decode cX11_copy 81 = .ok (.iconst 1, 1) := by decide +kernel
theorem dX11_copy_82 : decode cX11_copy 82 = .ok (.iload 5, 2) := by decide +kernel
theorem dX11_copy_84 : decode cX11_copy 84 = .ok (.ishl, 1) := by decide +kernel
theorem dX11_copy_85 : decode cX11_copy 85 = .ok (.iconst 1, 1) := by decide +kernel
theorem dX11_copy_86 : decode cX11_copy 86 = .ok (.isub, 1) := by decide +kernel
theorem dX11_copy_87 : decode cX11_copy 87 = .ok (.istore 6, 2) := by decide +kernel
theorem dX11_copy_89 : decode cX11_copy 89 = .ok (.aload_n 0, 1) := by decide +kernel
theorem dX11_copy_90 : decode cX11_copy 90 = .ok (.getfield 10, 3) := by decide +kernel
theorem dX11_copy_93 : decode cX11_copy 93 = .ok (.getfield 87, 3) := by decide +kernel
theorem dX11_copy_96 : decode cX11_copy 96 = .ok (.iload_n 1, 1) := by decide +kernel
theorem dX11_copy_97 : decode cX11_copy 97 = .ok (.invokevirtual 118, 3) := by decide +kernel
theorem dX11_copy_100 : decode cX11_copy 100 = .ok (.iload_n 2, 1) := by decide +kernel
theorem dX11_copy_101 : decode cX11_copy 101 = .ok (.ishr, 1) := by decide +kernel
theorem dX11_copy_102 : decode cX11_copy 102 = .ok (.iload 6, 2) := by decide +kernel
theorem dX11_copy_104 : decode cX11_copy 104 = .ok (.iand, 1) := by decide +kernel
theorem dX11_copy_105 : decode cX11_copy 105 = .ok (.istore 7, 2) := by decide +kernel
theorem dX11_copy_107 : decode cX11_copy 107 = .ok (.aload_n 0, 1) := by decide +kernel
theorem dX11_copy_108 : decode cX11_copy 108 = .ok (.getfield 10, 3) := by decide +kernel
theorem dX11_copy_111 : decode cX11_copy 111 = .ok (.getfield 87, 3) := by decide +kernel
theorem dX11_copy_114 : decode cX11_copy 114 = .ok (.iload_n 3, 1) := by decide +kernel
theorem dX11_copy_115 : decode cX11_copy 115 = .ok (.aload_n 0, 1) := by decide +kernel
theorem dX11_copy_116 : decode cX11_copy 116 = .ok (.getfield 10, 3) := by decide +kernel
theorem dX11_copy_119 : decode cX11_copy 119 = .ok (.getfield 87, 3) := by decide +kernel
theorem dX11_copy_122 : decode cX11_copy 122 = .ok (.iload_n 3, 1) := by decide +kernel
theorem dX11_copy_123 : decode cX11_copy 123 = .ok (.invokevirtual 118, 3) := by decide +kernel
theorem dX11_copy_126 : decode cX11_copy 126 = .ok (.iload 6, 2) := by decide +kernel
theorem dX11_copy_128 : decode cX11_copy 128 = .ok (.iload 4, 2) := by decide +kernel
theorem dX11_copy_130 : decode cX11_copy 130 = .ok (.ishl, 1) := by decide +kernel
theorem dX11_copy_131 : decode cX11_copy 131 = .ok (.iconst (-1), 1) := by decide +kernel
theorem dX11_copy_132 : decode cX11_copy 132 = .ok (.ixor, 1) := by decide +kernel
theorem dX11_copy_133 : decode cX11_copy 133 = .ok (.iand, 1) := by decide +kernel
theorem dX11_copy_134 : decode cX11_copy 134 = .ok (.iload 7, 2) := by decide +kernel
theorem dX11_copy_136 : decode cX11_copy 136 = .ok (.iload 4, 2) := by decide +kernel
theorem dX11_copy_138 : decode cX11_copy 138 = .ok (.ishl, 1) := by decide +kernel
theorem dX11_copy_139 : decode cX11_copy 139 = .ok (.ior, 1) := by decide +kernel
theorem dX11_copy_140 : decode cX11_copy 140 = .ok (.invokevirtual 91, 3) := by decide +kernel
theorem dX11_copy_143 : decode cX11_copy 143 = .ok (.aload_n 0, 1) := by decide +kernel
theorem dX11_copy_144 : decode cX11_copy 144 = .ok (.invokevirtual 97, 3) := by decide +kernel
theorem dX11_copy_147 : decode cX11_copy 147 = .ok (.iload 5, 2) := by decide +kernel
theorem dX11_copy_149 : decode cX11_copy 149 = .ok (.ireturn, 1) := by decide +kernel
theorem dX11_box_0 : decode cX11_box 0 = .ok (.iload_n 1, 1) := by decide +kernel
theorem dX11_box_1 : decode cX11_box 1 = .ok (.invokestatic 121, 3) := by decide +kernel
theorem dX11_box_4 : decode cX11_box 4 = .ok (.ifCond .eq 17, 3) := by decide +kernel
theorem dX11_box_7 : decode cX11_box 7 = .ok (.iload_n 2, 1) := by decide +kernel
theorem dX11_box_8 : decode cX11_box 8 = .ok (.invokestatic 121, 3) := by decide +kernel
theorem dX11_box_11 : decode cX11_box 11 = .ok (.ifCond .eq 10, 3) := by decide +kernel
theorem dX11_box_14 : decode cX11_box 14 = .ok (.iload_n 3, 1) := by decide +kernel
theorem dX11_box_15 : decode cX11_box 15 = .ok (.invokestatic 121, 3) := by decide +kernel
theorem dX11_box_18 : decode cX11_box 18 = .ok (.ifCond .ne 6, 3) := by decide +kernel
theorem dX11_box_21 : decode cX11_box 21 = .ok (.bipush (-3), 2) := by decide +kernel
theorem dX11_box_23 : decode cX11_box 23 = .ok (.ireturn, 1) := by decide +kernel
theorem dX11_box_24 : decode cX11_box 24 = .ok (.aload_n 0, 1) := by decide +kernel
theorem dX11_box_25 : decode cX11_box 25 = .ok (.getfield 19, 3) := by decide +kernel
theorem dX11_box_28 : decode cX11_box 28 = .ok (.aload_n 0, 1) := by decide +kernel
theorem dX11_box_29 : decode cX11_box 29 = .ok (.getfield 10, 3) := by decide +kernel
theorem dX11_box_32 : decode cX11_box 32 = .ok (.invokevirtual 83, 3) := by decide +kernel
theorem dX11_box_35 : decode cX11_box 35 = .ok (.iconst 0, 1) := by decide +kernel
theorem dX11_box_36 : decode cX11_box 36 = .ok (.istore 4, 2) := by decide +kernel
theorem dX11_box_38 : decode cX11_box 38 = .ok (.iconst 0, 1) := by decide +kernel
theorem dX11_box_39 : decode cX11_box 39 = .ok (.istore 5, 2) := by decide +kernel
theorem dX11_box_41 : decode cX11_box 41 = .ok (.iload 5, 2) := by decide +kernel
theorem dX11_box_43 : decode cX11_box 43 = .ok (.iload_n 2, 1) := by decide +kernel
theorem dX11_box_44 : decode cX11_box 44 = .ok (.if_icmp .ge 24, 3) := by decide +kernel
theorem dX11_box_47 : decode cX11_box 47 = .ok (.iload 4, 2) := by decide +kernel
theorem dX11_box_49 : decode cX11_box 49 = .ok (.iconst 1, 1) := by decide +kernel
theorem dX11_box_50 : decode cX11_box 50 = .ok (.iload_n 1, 1) := by decide +kernel
theorem dX11_box_51 : decode cX11_box 51 = .ok (.ishl, 1) := by decide +kernel
theorem dX11_box_52 : decode cX11_box 52 = .ok (.iconst 1, 1) := by decide +kernel
theorem dX11_box_53 : decode cX11_box 53 = .ok (.isub, 1) := by decide +kernel
theorem dX11_box_54 : decode cX11_box 54 = .ok (.iconst 4, 1) := by decide +kernel
theorem dX11_box_55 : decode cX11_box 55 = .ok (.iload 5, 2) := by decide +kernel
theorem dX11_box_57 : decode cX11_box 57 = .ok (.imul, 1) := by decide +kernel
theorem dX11_box_58 : decode cX11_box 58 = .ok (.ishl, 1) := by decide +kernel
theorem dX11_box_59 : decode cX11_box 59 = .ok (.ior, 1) := by decide +kernel
theorem dX11_box_60 : decode cX11_box 60 = .ok (.istore 4, 2) := by decide +kernel
theorem dX11_box_62 : decode cX11_box 62 = .ok (.iinc 5 1, 3) := by decide +kernel
theorem dX11_box_65 : decode cX11_box 65 = .ok (.goto (-24), 3) := by decide +kernel
theorem dX11_box_68 : decode cX11_box 68 = .ok (.iconst 0, 1) := by decide +kernel
theorem dX11_box_69 : decode cX11_box 69 = .ok (.istore 5, 2) := by decide +kernel
theorem dX11_box_71 : decode cX11_box 71 = .ok (.iload 5, 2) := by decide +kernel
theorem dX11_box_73 : decode cX11_box 73 = .ok (.iconst 4, 1) := by decide +kernel
theorem dX11_box_74 : decode cX11_box 74 = .ok (.if_icmp .ge 44, 3) := by decide +kernel
theorem dX11_box_77 : decode cX11_box 77 = .ok (.iload 5, 2) := by decide +kernel
theorem dX11_box_79 : decode cX11_box 79 = .ok (.iload_n 3, 1) := by decide +kernel
theorem dX11_box_80 : decode cX11_box 80 = .ok (.if_icmp .ge 20, 3) := by decide +kernel
theorem dX11_box_83 : decode cX11_box 83 = .ok (.aload_n 0, 1) := by decide +kernel
theorem dX11_box_84 : decode cX11_box 84 = .ok (.getfield 10, 3) := by decide +kernel
theorem dX11_box_87 : decode cX11_box 87 = .ok (.getfield 87, 3) := by decide +kernel
theorem dX11_box_90 : decode cX11_box 90 = .ok (.iload 5, 2) := by decide +kernel
theorem dX11_box_92 : decode cX11_box 92 = .ok (.iload 4, 2) := by decide +kernel
theorem dX11_box_94 : decode cX11_box 94 = .ok (.invokevirtual 91, 3) := by decide +kernel
theorem dX11_box_97 : decode cX11_box 97 = .ok (.goto 15, 3) := by decide +kernel
theorem dX11_box_100 : decode cX11_box 100 = .ok (.aload_n 0, 1) := by decide +kernel
theorem dX11_box_101 : decode cX11_box 101 = .ok (.getfield 10, 3) := by decide +kernel
theorem dX11_box_104 : decode cX11_box 104 = .ok (.getfield 87, 3) := by decide +kernel
theorem dX11_box_107 : decode cX11_box 107 = .ok (.iload 5, 2) := by decide +kernel
theorem dX11_box_109 : decode cX11_box 109 = .ok (.invokevirtual 107, 3) := by decide +kernel
theorem dX11_box_112 : decode cX11_box 112 = .ok (.iinc 5 1, 3) := by decide +kernel
theorem dX11_box_115 : decode cX11_box 115 = .ok (.goto (-44), 3) := by decide +kernel
theorem dX11_box_118 : decode cX11_box 118 = .ok (.aload_n 0, 1) := by decide +kernel
theorem dX11_box_119 : decode cX11_box 119 = .ok (.invokevirtual 97, 3) := by decide +kernel
theorem dX11_box_122 : decode cX11_box 122 = .ok (.iload_n 1, 1) := by decide +kernel
theorem dX11_box_123 : decode cX11_box 123 = .ok (.iload_n 2, 1) := by decide +kernel
theorem dX11_box_124 : decode cX11_box 124 = .ok (.imul, 1) := by decide +kernel
theorem dX11_box_125 : decode cX11_box 125 = .ok (.iload_n 3, 1) := by decide +kernel
theorem dX11_box_126 : decode cX11_box 126 = .ok (.imul, 1) := by decide +kernel
theorem dX11_box_127 : decode cX11_box 127 = .ok (.ireturn, 1) := by decide +kernel
theorem dX11_well_0 : decode cX11_well 0 = .ok (.aload_n 0, 1) := by decide +kernel
theorem dX11_well_1 : decode cX11_well 1 = .ok (.getfield 33, 3) := by decide +kernel
theorem dX11_well_4 : decode cX11_well 4 = .ok (.invokevirtual 124, 3) := by decide +kernel
theorem dX11_well_7 : decode cX11_well 7 = .ok (.ireturn, 1) := by decide +kernel
theorem dX11_skin_0 : decode cX11_skin 0 = .ok (.aload_n 0, 1) := by decide +kernel
theorem dX11_skin_1 : decode cX11_skin 1 = .ok (.getfield 33, 3) := by decide +kernel
theorem dX11_skin_4 : decode cX11_skin 4 = .ok (.invokevirtual 128, 3) := by decide +kernel
theorem dX11_skin_7 : decode cX11_skin 7 = .ok (.ireturn, 1) := by decide +kernel
theorem dX11_square_0 : decode cX11_square 0 = .ok (.iload_n 1, 1) := by decide +kernel
theorem dX11_square_1 : decode cX11_square 1 = .ok (.aload_n 0, 1) := by decide +kernel
theorem dX11_square_2 : decode cX11_square 2 = .ok (.getfield 33, 3) := by decide +kernel
theorem dX11_square_5 : decode cX11_square 5 = .ok (.invokevirtual 128, 3) := by decide +kernel
theorem dX11_square_8 : decode cX11_square 8 = .ok (.invokestatic 131, 3) := by decide +kernel
theorem dX11_square_11 : decode cX11_square 11 = .ok (.ifCond .eq 11, 3) := by decide +kernel
theorem dX11_square_14 : decode cX11_square 14 = .ok (.iload_n 2, 1) := by decide +kernel
theorem dX11_square_15 : decode cX11_square 15 = .ok (.iconst 4, 1) := by decide +kernel
theorem dX11_square_16 : decode cX11_square 16 = .ok (.invokestatic 131, 3) := by decide +kernel
theorem dX11_square_19 : decode cX11_square 19 = .ok (.ifCond .ne 6, 3) := by decide +kernel
theorem dX11_square_22 : decode cX11_square 22 = .ok (.bipush (-3), 2) := by decide +kernel
theorem dX11_square_24 : decode cX11_square 24 = .ok (.ireturn, 1) := by decide +kernel
theorem dX11_square_25 : decode cX11_square 25 = .ok (.iload_n 2, 1) := by decide +kernel
theorem dX11_square_26 : decode cX11_square 26 = .ok (.iconst 3, 1) := by decide +kernel
theorem dX11_square_27 : decode cX11_square 27 = .ok (.if_icmp .ne 12, 3) := by decide +kernel
theorem dX11_square_30 : decode cX11_square 30 = .ok (.aload_n 0, 1) := by decide +kernel
theorem dX11_square_31 : decode cX11_square 31 = .ok (.getfield 33, 3) := by decide +kernel
theorem dX11_square_34 : decode cX11_square 34 = .ok (.iload_n 1, 1) := by decide +kernel
theorem dX11_square_35 : decode cX11_square 35 = .ok (.invokevirtual 134, 3) := by decide +kernel
theorem dX11_square_38 : decode cX11_square 38 = .ok (.ireturn, 1) := by decide +kernel
theorem dX11_square_39 : decode cX11_square 39 = .ok (.aload_n 0, 1) := by decide +kernel
theorem dX11_square_40 : decode cX11_square 40 = .ok (.getfield 33, 3) := by decide +kernel
theorem dX11_square_43 : decode cX11_square 43 = .ok (.iload_n 1, 1) := by decide +kernel
theorem dX11_square_44 : decode cX11_square 44 = .ok (.invokevirtual 137, 3) := by decide +kernel
theorem dX11_square_47 : decode cX11_square 47 = .ok (.iload_n 2, 1) := by decide +kernel
theorem dX11_square_48 : decode cX11_square 48 = .ok (.invokestatic 140, 3) := by decide +kernel
theorem dX11_square_51 : decode cX11_square 51 = .ok (.ireturn, 1) := by decide +kernel
theorem dX11_across_0 : decode cX11_across 0 = .ok (.iload_n 1, 1) := by decide +kernel
theorem dX11_across_1 : decode cX11_across 1 = .ok (.aload_n 0, 1) := by decide +kernel
theorem dX11_across_2 : decode cX11_across 2 = .ok (.getfield 33, 3) := by decide +kernel
theorem dX11_across_5 : decode cX11_across 5 = .ok (.invokevirtual 128, 3) := by decide +kernel
theorem dX11_across_8 : decode cX11_across 8 = .ok (.invokestatic 131, 3) := by decide +kernel
theorem dX11_across_11 : decode cX11_across 11 = .ok (.ifCond .eq 19, 3) := by decide +kernel
theorem dX11_across_14 : decode cX11_across 14 = .ok (.iload_n 2, 1) := by decide +kernel
theorem dX11_across_15 : decode cX11_across 15 = .ok (.iconst 4, 1) := by decide +kernel
theorem dX11_across_16 : decode cX11_across 16 = .ok (.invokestatic 131, 3) := by decide +kernel
theorem dX11_across_19 : decode cX11_across 19 = .ok (.ifCond .eq 11, 3) := by decide +kernel
theorem dX11_across_22 : decode cX11_across 22 = .ok (.iload_n 3, 1) := by decide +kernel
theorem dX11_across_23 : decode cX11_across 23 = .ok (.iconst 4, 1) := by decide +kernel
theorem dX11_across_24 : decode cX11_across 24 = .ok (.invokestatic 131, 3) := by decide +kernel
theorem dX11_across_27 : decode cX11_across 27 = .ok (.ifCond .ne 6, 3) := by decide +kernel
theorem dX11_across_30 : decode cX11_across 30 = .ok (.bipush (-3), 2) := by decide +kernel
theorem dX11_across_32 : decode cX11_across 32 = .ok (.ireturn, 1) := by decide +kernel
theorem dX11_across_33 : decode cX11_across 33 = .ok (.aload_n 0, 1) := by decide +kernel
theorem dX11_across_34 : decode cX11_across 34 = .ok (.getfield 33, 3) := by decide +kernel
theorem dX11_across_37 : decode cX11_across 37 = .ok (.invokevirtual 124, 3) := by decide +kernel
theorem dX11_across_40 : decode cX11_across 40 = .ok (.ifCond .eq 6, 3) := by decide +kernel
theorem dX11_across_43 : decode cX11_across 43 = .ok (.bipush (-4), 2) := by decide +kernel
theorem dX11_across_45 : decode cX11_across 45 = .ok (.ireturn, 1) := by decide +kernel
theorem dX11_across_46 : decode cX11_across 46 = .ok (.iload_n 3, 1) := by decide +kernel
theorem dX11_across_47 : decode cX11_across 47 = .ok (.tableswitch 58 0 2 #[25, 35, 45], 25) := by decide +kernel
theorem dX11_across_72 : decode cX11_across 72 = .ok (.aload_n 0, 1) := by decide +kernel
theorem dX11_across_73 : decode cX11_across 73 = .ok (.getfield 33, 3) := by decide +kernel
theorem dX11_across_76 : decode cX11_across 76 = .ok (.iload_n 1, 1) := by decide +kernel
theorem dX11_across_77 : decode cX11_across 77 = .ok (.iload_n 2, 1) := by decide +kernel
theorem dX11_across_78 : decode cX11_across 78 = .ok (.invokevirtual 144, 3) := by decide +kernel
theorem dX11_across_81 : decode cX11_across 81 = .ok (.ireturn, 1) := by decide +kernel
theorem dX11_across_82 : decode cX11_across 82 = .ok (.aload_n 0, 1) := by decide +kernel
theorem dX11_across_83 : decode cX11_across 83 = .ok (.getfield 33, 3) := by decide +kernel
theorem dX11_across_86 : decode cX11_across 86 = .ok (.iload_n 1, 1) := by decide +kernel
theorem dX11_across_87 : decode cX11_across 87 = .ok (.iload_n 2, 1) := by decide +kernel
theorem dX11_across_88 : decode cX11_across 88 = .ok (.invokevirtual 147, 3) := by decide +kernel
theorem dX11_across_91 : decode cX11_across 91 = .ok (.ireturn, 1) := by decide +kernel
theorem dX11_across_92 : decode cX11_across 92 = .ok (.aload_n 0, 1) := by decide +kernel
theorem dX11_across_93 : decode cX11_across 93 = .ok (.getfield 33, 3) := by decide +kernel
theorem dX11_across_96 : decode cX11_across 96 = .ok (.iload_n 1, 1) := by decide +kernel
theorem dX11_across_97 : decode cX11_across 97 = .ok (.iload_n 2, 1) := by decide +kernel
theorem dX11_across_98 : decode cX11_across 98 = .ok (.invokevirtual 150, 3) := by decide +kernel
theorem dX11_across_101 : decode cX11_across 101 = .ok (.invokestatic 153, 3) := by decide +kernel
theorem dX11_across_104 : decode cX11_across 104 = .ok (.ireturn, 1) := by decide +kernel
theorem dX11_across_105 : decode cX11_across 105 = .ok (.aload_n 0, 1) := by decide +kernel
theorem dX11_across_106 : decode cX11_across 106 = .ok (.getfield 10, 3) := by decide +kernel
theorem dX11_across_109 : decode cX11_across 109 = .ok (.getfield 156, 3) := by decide +kernel
theorem dX11_across_112 : decode cX11_across 112 = .ok (.iload_n 1, 1) := by decide +kernel
theorem dX11_across_113 : decode cX11_across 113 = .ok (.iload_n 2, 1) := by decide +kernel
theorem dX11_across_114 : decode cX11_across 114 = .ok (.invokevirtual 160, 3) := by decide +kernel
theorem dX11_across_117 : decode cX11_across 117 = .ok (.ifCond .eq 7, 3) := by decide +kernel
theorem dX11_across_120 : decode cX11_across 120 = .ok (.iconst 1, 1) := by decide +kernel
theorem dX11_across_121 : decode cX11_across 121 = .ok (.goto 4, 3) := by decide +kernel
theorem dX11_across_124 : decode cX11_across 124 = .ok (.iconst 0, 1) := by decide +kernel
theorem dX11_across_125 : decode cX11_across 125 = .ok (.ireturn, 1) := by decide +kernel
theorem dX11_cut_0 : decode cX11_cut 0 = .ok (.iload_n 1, 1) := by decide +kernel
theorem dX11_cut_1 : decode cX11_cut 1 = .ok (.aload_n 0, 1) := by decide +kernel
theorem dX11_cut_2 : decode cX11_cut 2 = .ok (.getfield 33, 3) := by decide +kernel
theorem dX11_cut_5 : decode cX11_cut 5 = .ok (.invokevirtual 128, 3) := by decide +kernel
theorem dX11_cut_8 : decode cX11_cut 8 = .ok (.invokestatic 131, 3) := by decide +kernel
theorem dX11_cut_11 : decode cX11_cut 11 = .ok (.ifCond .eq 18, 3) := by decide +kernel
theorem dX11_cut_14 : decode cX11_cut 14 = .ok (.iload_n 2, 1) := by decide +kernel
theorem dX11_cut_15 : decode cX11_cut 15 = .ok (.iconst 4, 1) := by decide +kernel
theorem dX11_cut_16 : decode cX11_cut 16 = .ok (.invokestatic 131, 3) := by decide +kernel
theorem dX11_cut_19 : decode cX11_cut 19 = .ok (.ifCond .eq 10, 3) := by decide +kernel
theorem dX11_cut_22 : decode cX11_cut 22 = .ok (.iload_n 3, 1) := by decide +kernel
theorem dX11_cut_23 : decode cX11_cut 23 = .ok (.invokestatic 111, 3) := by decide +kernel
theorem dX11_cut_26 : decode cX11_cut 26 = .ok (.ifCond .ne 6, 3) := by decide +kernel
theorem dX11_cut_29 : decode cX11_cut 29 = .ok (.bipush (-3), 2) := by decide +kernel
theorem dX11_cut_31 : decode cX11_cut 31 = .ok (.ireturn, 1) := by decide +kernel
theorem dX11_cut_32 : decode cX11_cut 32 = .ok (.aload_n 0, 1) := by decide +kernel
theorem dX11_cut_33 : decode cX11_cut 33 = .ok (.getfield 33, 3) := by decide +kernel
theorem dX11_cut_36 : decode cX11_cut 36 = .ok (.invokevirtual 124, 3) := by decide +kernel
theorem dX11_cut_39 : decode cX11_cut 39 = .ok (.ifCond .eq 6, 3) := by decide +kernel
theorem dX11_cut_42 : decode cX11_cut 42 = .ok (.bipush (-4), 2) := by decide +kernel
theorem dX11_cut_44 : decode cX11_cut 44 = .ok (.ireturn, 1) := by decide +kernel
theorem dX11_cut_45 : decode cX11_cut 45 = .ok (.aload_n 0, 1) := by decide +kernel
theorem dX11_cut_46 : decode cX11_cut 46 = .ok (.getfield 19, 3) := by decide +kernel
theorem dX11_cut_49 : decode cX11_cut 49 = .ok (.aload_n 0, 1) := by decide +kernel
theorem dX11_cut_50 : decode cX11_cut 50 = .ok (.getfield 10, 3) := by decide +kernel
theorem dX11_cut_53 : decode cX11_cut 53 = .ok (.invokevirtual 83, 3) := by decide +kernel
theorem dX11_cut_56 : decode cX11_cut 56 = .ok (.aload_n 0, 1) := by decide +kernel
theorem dX11_cut_57 : decode cX11_cut 57 = .ok (.getfield 10, 3) := by decide +kernel
theorem dX11_cut_60 : decode cX11_cut 60 = .ok (.getfield 156, 3) := by decide +kernel
theorem dX11_cut_63 : decode cX11_cut 63 = .ok (.iload_n 1, 1) := by decide +kernel
theorem dX11_cut_64 : decode cX11_cut 64 = .ok (.iload_n 2, 1) := by decide +kernel
theorem dX11_cut_65 : decode cX11_cut 65 = .ok (.invokevirtual 160, 3) := by decide +kernel
theorem dX11_cut_68 : decode cX11_cut 68 = .ok (.ifCond .eq 7, 3) := by decide +kernel
theorem dX11_cut_71 : decode cX11_cut 71 = .ok (.iconst 1, 1) := by decide +kernel
theorem dX11_cut_72 : decode cX11_cut 72 = .ok (.goto 4, 3) := by decide +kernel
theorem dX11_cut_75 : decode cX11_cut 75 = .ok (.iconst 0, 1) := by decide +kernel
theorem dX11_cut_76 : decode cX11_cut 76 = .ok (.istore 4, 2) := by decide +kernel
theorem dX11_cut_78 : decode cX11_cut 78 = .ok (.aload_n 0, 1) := by decide +kernel
theorem dX11_cut_79 : decode cX11_cut 79 = .ok (.getfield 10, 3) := by decide +kernel
theorem dX11_cut_82 : decode cX11_cut 82 = .ok (.getfield 156, 3) := by decide +kernel
theorem dX11_cut_85 : decode cX11_cut 85 = .ok (.iload_n 1, 1) := by decide +kernel
theorem dX11_cut_86 : decode cX11_cut 86 = .ok (.iload_n 2, 1) := by decide +kernel
theorem dX11_cut_87 : decode cX11_cut 87 = .ok (.iload_n 3, 1) := by decide +kernel
theorem dX11_cut_88 : decode cX11_cut 88 = .ok (.iconst 1, 1) := by decide +kernel
theorem dX11_cut_89 : decode cX11_cut 89 = .ok (.if_icmp .ne 7, 3) := by decide +kernel
theorem dX11_cut_92 : decode cX11_cut 92 = .ok (.iconst 1, 1) := by decide +kernel
theorem dX11_cut_93 : decode cX11_cut 93 = .ok (.goto 4, 3) := by decide +kernel
theorem dX11_cut_96 : decode cX11_cut 96 = .ok (.iconst 0, 1) := by decide +kernel
theorem dX11_cut_97 : decode cX11_cut 97 = .ok (.invokevirtual 165, 3) := by decide +kernel
theorem dX11_cut_100 : decode cX11_cut 100 = .ok (.aload_n 0, 1) := by decide +kernel
theorem dX11_cut_101 : decode cX11_cut 101 = .ok (.getfield 10, 3) := by decide +kernel
theorem dX11_cut_104 : decode cX11_cut 104 = .ok (.getfield 156, 3) := by decide +kernel
theorem dX11_cut_107 : decode cX11_cut 107 = .ok (.aload_n 0, 1) := by decide +kernel
theorem dX11_cut_108 : decode cX11_cut 108 = .ok (.getfield 33, 3) := by decide +kernel
theorem dX11_cut_111 : decode cX11_cut 111 = .ok (.iload_n 1, 1) := by decide +kernel
theorem dX11_cut_112 : decode cX11_cut 112 = .ok (.iload_n 2, 1) := by decide +kernel
theorem dX11_cut_113 : decode cX11_cut 113 = .ok (.invokevirtual 144, 3) := by decide +kernel
theorem dX11_cut_116 : decode cX11_cut 116 = .ok (.aload_n 0, 1) := by decide +kernel
theorem dX11_cut_117 : decode cX11_cut 117 = .ok (.getfield 33, 3) := by decide +kernel
theorem dX11_cut_120 : decode cX11_cut 120 = .ok (.iload_n 1, 1) := by decide +kernel
theorem dX11_cut_121 : decode cX11_cut 121 = .ok (.iload_n 2, 1) := by decide +kernel
theorem dX11_cut_122 : decode cX11_cut 122 = .ok (.invokevirtual 147, 3) := by decide +kernel
theorem dX11_cut_125 : decode cX11_cut 125 = .ok (.iload_n 3, 1) := by decide +kernel
theorem dX11_cut_126 : decode cX11_cut 126 = .ok (.iconst 1, 1) := by decide +kernel
theorem dX11_cut_127 : decode cX11_cut 127 = .ok (.if_icmp .ne 7, 3) := by decide +kernel
theorem dX11_cut_130 : decode cX11_cut 130 = .ok (.iconst 1, 1) := by decide +kernel
theorem dX11_cut_131 : decode cX11_cut 131 = .ok (.goto 4, 3) := by decide +kernel
theorem dX11_cut_134 : decode cX11_cut 134 = .ok (.iconst 0, 1) := by decide +kernel
theorem dX11_cut_135 : decode cX11_cut 135 = .ok (.invokevirtual 165, 3) := by decide +kernel
theorem dX11_cut_138 : decode cX11_cut 138 = .ok (.iload 4, 2) := by decide +kernel
theorem dX11_cut_140 : decode cX11_cut 140 = .ok (.ireturn, 1) := by decide +kernel
theorem dX11_cuts_0 : decode cX11_cuts 0 = .ok (.aload_n 0, 1) := by decide +kernel
theorem dX11_cuts_1 : decode cX11_cuts 1 = .ok (.getfield 10, 3) := by decide +kernel
theorem dX11_cuts_4 : decode cX11_cuts 4 = .ok (.getfield 156, 3) := by decide +kernel
theorem dX11_cuts_7 : decode cX11_cuts 7 = .ok (.invokevirtual 169, 3) := by decide +kernel
theorem dX11_cuts_10 : decode cX11_cuts 10 = .ok (.iconst 2, 1) := by decide +kernel
theorem dX11_cuts_11 : decode cX11_cuts 11 = .ok (.idiv, 1) := by decide +kernel
theorem dX11_cuts_12 : decode cX11_cuts 12 = .ok (.ireturn, 1) := by decide +kernel
theorem dX11_open_0 : decode cX11_open 0 = .ok (.aload_n 0, 1) := by decide +kernel
theorem dX11_open_1 : decode cX11_open 1 = .ok (.getfield 33, 3) := by decide +kernel
theorem dX11_open_4 : decode cX11_open 4 = .ok (.invokevirtual 124, 3) := by decide +kernel
theorem dX11_open_7 : decode cX11_open 7 = .ok (.ifCond .eq 6, 3) := by decide +kernel
theorem dX11_open_10 : decode cX11_open 10 = .ok (.bipush (-4), 2) := by decide +kernel
theorem dX11_open_12 : decode cX11_open 12 = .ok (.ireturn, 1) := by decide +kernel
theorem dX11_open_13 : decode cX11_open 13 = .ok (.aload_n 0, 1) := by decide +kernel
theorem dX11_open_14 : decode cX11_open 14 = .ok (.getfield 33, 3) := by decide +kernel
theorem dX11_open_17 : decode cX11_open 17 = .ok (.invokevirtual 128, 3) := by decide +kernel
theorem dX11_open_20 : decode cX11_open 20 = .ok (.bipush 60, 2) := by decide +kernel
theorem dX11_open_22 : decode cX11_open 22 = .ok (.if_icmp .le 6, 3) := by decide +kernel
theorem dX11_open_25 : decode cX11_open 25 = .ok (.bipush (-5), 2) := by decide +kernel
theorem dX11_open_27 : decode cX11_open 27 = .ok (.ireturn, 1) := by decide +kernel
theorem dX11_open_28 : decode cX11_open 28 = .ok (.aload_n 0, 1) := by decide +kernel
theorem dX11_open_29 : decode cX11_open 29 = .ok (.getfield 40, 3) := by decide +kernel
theorem dX11_open_32 : decode cX11_open 32 = .ok (.aload_n 0, 1) := by decide +kernel
theorem dX11_open_33 : decode cX11_open 33 = .ok (.getfield 33, 3) := by decide +kernel
theorem dX11_open_36 : decode cX11_open 36 = .ok (.aload_n 0, 1) := by decide +kernel
theorem dX11_open_37 : decode cX11_open 37 = .ok (.getfield 10, 3) := by decide +kernel
theorem dX11_open_40 : decode cX11_open 40 = .ok (.getfield 156, 3) := by decide +kernel
theorem dX11_open_43 : decode cX11_open 43 = .ok (.invokevirtual 172, 3) := by decide +kernel
theorem dX11_open_46 : decode cX11_open 46 = .ok (.istore_n 1, 1) := by decide +kernel
theorem dX11_open_47 : decode cX11_open 47 = .ok (.iload_n 1, 1) := by decide +kernel
theorem dX11_open_48 : decode cX11_open 48 = .ok (.ifCond .eq 8, 3) := by decide +kernel
theorem dX11_open_51 : decode cX11_open 51 = .ok (.bipush (-20), 2) := by decide +kernel
theorem dX11_open_53 : decode cX11_open 53 = .ok (.iload_n 1, 1) := by decide +kernel
theorem dX11_open_54 : decode cX11_open 54 = .ok (.isub, 1) := by decide +kernel
theorem dX11_open_55 : decode cX11_open 55 = .ok (.ireturn, 1) := by decide +kernel
theorem dX11_open_56 : decode cX11_open 56 = .ok (.aload_n 0, 1) := by decide +kernel
theorem dX11_open_57 : decode cX11_open 57 = .ok (.getfield 40, 3) := by decide +kernel
theorem dX11_open_60 : decode cX11_open 60 = .ok (.invokevirtual 176, 3) := by decide +kernel
theorem dX11_open_63 : decode cX11_open 63 = .ok (.ifCond .ne 6, 3) := by decide +kernel
theorem dX11_open_66 : decode cX11_open 66 = .ok (.bipush (-3), 2) := by decide +kernel
theorem dX11_open_68 : decode cX11_open 68 = .ok (.ireturn, 1) := by decide +kernel
theorem dX11_open_69 : decode cX11_open 69 = .ok (.aload_n 0, 1) := by decide +kernel
theorem dX11_open_70 : decode cX11_open 70 = .ok (.getfield 19, 3) := by decide +kernel
theorem dX11_open_73 : decode cX11_open 73 = .ok (.aload_n 0, 1) := by decide +kernel
theorem dX11_open_74 : decode cX11_open 74 = .ok (.getfield 10, 3) := by decide +kernel
theorem dX11_open_77 : decode cX11_open 77 = .ok (.invokevirtual 83, 3) := by decide +kernel
theorem dX11_open_80 : decode cX11_open 80 = .ok (.aload_n 0, 1) := by decide +kernel
theorem dX11_open_81 : decode cX11_open 81 = .ok (.getfield 40, 3) := by decide +kernel
theorem dX11_open_84 : decode cX11_open 84 = .ok (.aload_n 0, 1) := by decide +kernel
theorem dX11_open_85 : decode cX11_open 85 = .ok (.getfield 10, 3) := by decide +kernel
theorem dX11_open_88 : decode cX11_open 88 = .ok (.getfield 180, 3) := by decide +kernel
theorem dX11_open_91 : decode cX11_open 91 = .ok (.aload_n 0, 1) := by decide +kernel
theorem dX11_open_92 : decode cX11_open 92 = .ok (.getfield 33, 3) := by decide +kernel
theorem dX11_open_95 : decode cX11_open 95 = .ok (.aload_n 0, 1) := by decide +kernel
theorem dX11_open_96 : decode cX11_open 96 = .ok (.getfield 10, 3) := by decide +kernel
theorem dX11_open_99 : decode cX11_open 99 = .ok (.getfield 156, 3) := by decide +kernel
theorem dX11_open_102 : decode cX11_open 102 = .ok (.invokevirtual 183, 3) := by decide +kernel
theorem dX11_open_105 : decode cX11_open 105 = .ok (.aload_n 0, 1) := by decide +kernel
theorem dX11_open_106 : decode cX11_open 106 = .ok (.getfield 10, 3) := by decide +kernel
theorem dX11_open_109 : decode cX11_open 109 = .ok (.getfield 180, 3) := by decide +kernel
theorem dX11_open_112 : decode cX11_open 112 = .ok (.invokevirtual 187, 3) := by decide +kernel
theorem dX11_open_115 : decode cX11_open 115 = .ok (.ireturn, 1) := by decide +kernel
theorem dX11_spot_0 : decode cX11_spot 0 = .ok (.iload_n 1, 1) := by decide +kernel
theorem dX11_spot_1 : decode cX11_spot 1 = .ok (.invokestatic 190, 3) := by decide +kernel
theorem dX11_spot_4 : decode cX11_spot 4 = .ok (.ifCond .eq 17, 3) := by decide +kernel
theorem dX11_spot_7 : decode cX11_spot 7 = .ok (.iload_n 2, 1) := by decide +kernel
theorem dX11_spot_8 : decode cX11_spot 8 = .ok (.invokestatic 190, 3) := by decide +kernel
theorem dX11_spot_11 : decode cX11_spot 11 = .ok (.ifCond .eq 10, 3) := by decide +kernel
theorem dX11_spot_14 : decode cX11_spot 14 = .ok (.iload_n 3, 1) := by decide +kernel
theorem dX11_spot_15 : decode cX11_spot 15 = .ok (.invokestatic 111, 3) := by decide +kernel
theorem dX11_spot_18 : decode cX11_spot 18 = .ok (.ifCond .ne 6, 3) := by decide +kernel
theorem dX11_spot_21 : decode cX11_spot 21 = .ok (.bipush (-3), 2) := by decide +kernel
theorem dX11_spot_23 : decode cX11_spot 23 = .ok (.ireturn, 1) := by decide +kernel
theorem dX11_spot_24 : decode cX11_spot 24 = .ok (.aload_n 0, 1) := by decide +kernel
theorem dX11_spot_25 : decode cX11_spot 25 = .ok (.getfield 10, 3) := by decide +kernel
theorem dX11_spot_28 : decode cX11_spot 28 = .ok (.getfield 180, 3) := by decide +kernel
theorem dX11_spot_31 : decode cX11_spot 31 = .ok (.iload_n 1, 1) := by decide +kernel
theorem dX11_spot_32 : decode cX11_spot 32 = .ok (.iload_n 2, 1) := by decide +kernel
theorem dX11_spot_33 : decode cX11_spot 33 = .ok (.invokevirtual 193, 3) := by decide +kernel
theorem dX11_spot_36 : decode cX11_spot 36 = .ok (.istore 4, 2) := by decide +kernel
theorem dX11_spot_38 : decode cX11_spot 38 = .ok (.iload_n 3, 1) := by decide +kernel
theorem dX11_spot_39 : decode cX11_spot 39 = .ok (.iconst 1, 1) := by decide +kernel
theorem dX11_spot_40 : decode cX11_spot 40 = .ok (.if_icmp .ne 26, 3) := by decide +kernel
theorem dX11_spot_43 : decode cX11_spot 43 = .ok (.iload 4, 2) := by decide +kernel
theorem dX11_spot_45 : decode cX11_spot 45 = .ok (.ifCond .ge 21, 3) := by decide +kernel
theorem dX11_spot_48 : decode cX11_spot 48 = .ok (.aload_n 0, 1) := by decide +kernel
theorem dX11_spot_49 : decode cX11_spot 49 = .ok (.getfield 10, 3) := by decide +kernel
theorem dX11_spot_52 : decode cX11_spot 52 = .ok (.getfield 180, 3) := by decide +kernel
theorem dX11_spot_55 : decode cX11_spot 55 = .ok (.invokevirtual 196, 3) := by decide +kernel
theorem dX11_spot_58 : decode cX11_spot 58 = .ok (.bipush 60, 2) := by decide +kernel
theorem dX11_spot_60 : decode cX11_spot 60 = .ok (.if_icmp .lt 6, 3) := by decide +kernel
theorem dX11_spot_63 : decode cX11_spot 63 = .ok (.bipush (-5), 2) := by decide +kernel
theorem dX11_spot_65 : decode cX11_spot 65 = .ok (.ireturn, 1) := by decide +kernel
theorem dX11_spot_66 : decode cX11_spot 66 = .ok (.aload_n 0, 1) := by decide +kernel
theorem dX11_spot_67 : decode cX11_spot 67 = .ok (.getfield 19, 3) := by decide +kernel
theorem dX11_spot_70 : decode cX11_spot 70 = .ok (.aload_n 0, 1) := by decide +kernel
theorem dX11_spot_71 : decode cX11_spot 71 = .ok (.getfield 10, 3) := by decide +kernel
theorem dX11_spot_74 : decode cX11_spot 74 = .ok (.invokevirtual 83, 3) := by decide +kernel
theorem dX11_spot_77 : decode cX11_spot 77 = .ok (.iload_n 3, 1) := by decide +kernel
theorem dX11_spot_78 : decode cX11_spot 78 = .ok (.iconst 1, 1) := by decide +kernel
theorem dX11_spot_79 : decode cX11_spot 79 = .ok (.if_icmp .ne 21, 3) := by decide +kernel
theorem dX11_spot_82 : decode cX11_spot 82 = .ok (.iload 4, 2) := by decide +kernel
theorem dX11_spot_84 : decode cX11_spot 84 = .ok (.ifCond .ge 16, 3) := by decide +kernel
theorem dX11_spot_87 : decode cX11_spot 87 = .ok (.aload_n 0, 1) := by decide +kernel
theorem dX11_spot_88 : decode cX11_spot 88 = .ok (.getfield 10, 3) := by decide +kernel
theorem dX11_spot_91 : decode cX11_spot 91 = .ok (.getfield 180, 3) := by decide +kernel
theorem dX11_spot_94 : decode cX11_spot 94 = .ok (.iload_n 1, 1) := by decide +kernel
theorem dX11_spot_95 : decode cX11_spot 95 = .ok (.iload_n 2, 1) := by decide +kernel
theorem dX11_spot_96 : decode cX11_spot 96 = .ok (.invokevirtual 197, 3) := by decide +kernel
theorem dX11_spot_99 : decode cX11_spot 99 = .ok (.pop, 1) := by decide +kernel
theorem dX11_spot_100 : decode cX11_spot 100 = .ok (.iload_n 3, 1) := by decide +kernel
theorem dX11_spot_101 : decode cX11_spot 101 = .ok (.ifCond .ne 20, 3) := by decide +kernel
theorem dX11_spot_104 : decode cX11_spot 104 = .ok (.iload 4, 2) := by decide +kernel
theorem dX11_spot_106 : decode cX11_spot 106 = .ok (.ifCond .lt 15, 3) := by decide +kernel
theorem dX11_spot_109 : decode cX11_spot 109 = .ok (.aload_n 0, 1) := by decide +kernel
theorem dX11_spot_110 : decode cX11_spot 110 = .ok (.getfield 10, 3) := by decide +kernel
theorem dX11_spot_113 : decode cX11_spot 113 = .ok (.getfield 180, 3) := by decide +kernel
theorem dX11_spot_116 : decode cX11_spot 116 = .ok (.iload 4, 2) := by decide +kernel
theorem dX11_spot_118 : decode cX11_spot 118 = .ok (.invokevirtual 200, 3) := by decide +kernel
theorem dX11_spot_121 : decode cX11_spot 121 = .ok (.iload 4, 2) := by decide +kernel
theorem dX11_spot_123 : decode cX11_spot 123 = .ok (.ifCond .lt 7, 3) := by decide +kernel
theorem dX11_spot_126 : decode cX11_spot 126 = .ok (.iconst 1, 1) := by decide +kernel
theorem dX11_spot_127 : decode cX11_spot 127 = .ok (.goto 4, 3) := by decide +kernel
theorem dX11_spot_130 : decode cX11_spot 130 = .ok (.iconst 0, 1) := by decide +kernel
theorem dX11_spot_131 : decode cX11_spot 131 = .ok (.ireturn, 1) := by decide +kernel
theorem dX11_crease_0 : decode cX11_crease 0 = .ok (.iload 4, 2) := by decide +kernel
theorem dX11_crease_2 : decode cX11_crease 2 = .ok (.invokestatic 203, 3) := by decide +kernel
theorem dX11_crease_5 : decode cX11_crease 5 = .ok (.istore 5, 2) := by decide +kernel
theorem dX11_crease_7 : decode cX11_crease 7 = .ok (.iload_n 1, 1) := by decide +kernel
theorem dX11_crease_8 : decode cX11_crease 8 = .ok (.invokestatic 190, 3) := by decide +kernel
theorem dX11_crease_11 : decode cX11_crease 11 = .ok (.ifCond .eq 23, 3) := by decide +kernel
theorem dX11_crease_14 : decode cX11_crease 14 = .ok (.iload_n 2, 1) := by decide +kernel
theorem dX11_crease_15 : decode cX11_crease 15 = .ok (.invokestatic 190, 3) := by decide +kernel
theorem dX11_crease_18 : decode cX11_crease 18 = .ok (.ifCond .eq 16, 3) := by decide +kernel
theorem dX11_crease_21 : decode cX11_crease 21 = .ok (.iload_n 3, 1) := by decide +kernel
theorem dX11_crease_22 : decode cX11_crease 22 = .ok (.iconst 4, 1) := by decide +kernel
theorem dX11_crease_23 : decode cX11_crease 23 = .ok (.invokestatic 131, 3) := by decide +kernel
theorem dX11_crease_26 : decode cX11_crease 26 = .ok (.ifCond .eq 8, 3) := by decide +kernel
theorem dX11_crease_29 : decode cX11_crease 29 = .ok (.iload 5, 2) := by decide +kernel
theorem dX11_crease_31 : decode cX11_crease 31 = .ok (.ifCond .ge 6, 3) := by decide +kernel
theorem dX11_crease_34 : decode cX11_crease 34 = .ok (.bipush (-3), 2) := by decide +kernel
theorem dX11_crease_36 : decode cX11_crease 36 = .ok (.ireturn, 1) := by decide +kernel
theorem dX11_crease_37 : decode cX11_crease 37 = .ok (.aload_n 0, 1) := by decide +kernel
theorem dX11_crease_38 : decode cX11_crease 38 = .ok (.getfield 10, 3) := by decide +kernel
theorem dX11_crease_41 : decode cX11_crease 41 = .ok (.getfield 180, 3) := by decide +kernel
theorem dX11_crease_44 : decode cX11_crease 44 = .ok (.iload_n 1, 1) := by decide +kernel
theorem dX11_crease_45 : decode cX11_crease 45 = .ok (.iload_n 2, 1) := by decide +kernel
theorem dX11_crease_46 : decode cX11_crease 46 = .ok (.invokevirtual 193, 3) := by decide +kernel
theorem dX11_crease_49 : decode cX11_crease 49 = .ok (.istore 6, 2) := by decide +kernel
theorem dX11_crease_51 : decode cX11_crease 51 = .ok (.iload 6, 2) := by decide +kernel
theorem dX11_crease_53 : decode cX11_crease 53 = .ok (.ifCond .ge 7, 3) := by decide +kernel
theorem dX11_crease_56 : decode cX11_crease 56 = .ok (.iconst (-1), 1) := by decide +kernel
theorem dX11_crease_57 : decode cX11_crease 57 = .ok (.goto 16, 3) := by decide +kernel
theorem dX11_crease_60 : decode cX11_crease 60 = .ok (.aload_n 0, 1) := by decide +kernel
theorem dX11_crease_61 : decode cX11_crease 61 = .ok (.getfield 10, 3) := by decide +kernel
theorem dX11_crease_64 : decode cX11_crease 64 = .ok (.getfield 180, 3) := by decide +kernel
theorem dX11_crease_67 : decode cX11_crease 67 = .ok (.iload 6, 2) := by decide +kernel
theorem dX11_crease_69 : decode cX11_crease 69 = .ok (.iload_n 3, 1) := by decide +kernel
theorem dX11_crease_70 : decode cX11_crease 70 = .ok (.invokevirtual 206, 3) := by decide +kernel
theorem dX11_crease_73 : decode cX11_crease 73 = .ok (.istore 7, 2) := by decide +kernel
theorem dX11_crease_75 : decode cX11_crease 75 = .ok (.iload 6, 2) := by decide +kernel
theorem dX11_crease_77 : decode cX11_crease 77 = .ok (.ifCond .lt 8, 3) := by decide +kernel
theorem dX11_crease_80 : decode cX11_crease 80 = .ok (.iload 7, 2) := by decide +kernel
theorem dX11_crease_82 : decode cX11_crease 82 = .ok (.ifCond .ge 6, 3) := by decide +kernel
theorem dX11_crease_85 : decode cX11_crease 85 = .ok (.bipush (-4), 2) := by decide +kernel
theorem dX11_crease_87 : decode cX11_crease 87 = .ok (.ireturn, 1) := by decide +kernel
theorem dX11_crease_88 : decode cX11_crease 88 = .ok (.aload_n 0, 1) := by decide +kernel
theorem dX11_crease_89 : decode cX11_crease 89 = .ok (.getfield 19, 3) := by decide +kernel
theorem dX11_crease_92 : decode cX11_crease 92 = .ok (.aload_n 0, 1) := by decide +kernel
theorem dX11_crease_93 : decode cX11_crease 93 = .ok (.getfield 10, 3) := by decide +kernel
theorem dX11_crease_96 : decode cX11_crease 96 = .ok (.invokevirtual 83, 3) := by decide +kernel
theorem dX11_crease_99 : decode cX11_crease 99 = .ok (.aload_n 0, 1) := by decide +kernel
theorem dX11_crease_100 : decode cX11_crease 100 = .ok (.getfield 10, 3) := by decide +kernel
theorem dX11_crease_103 : decode cX11_crease 103 = .ok (.getfield 180, 3) := by decide +kernel
theorem dX11_crease_106 : decode cX11_crease 106 = .ok (.iload 6, 2) := by decide +kernel
theorem dX11_crease_108 : decode cX11_crease 108 = .ok (.iload_n 3, 1) := by decide +kernel
theorem dX11_crease_109 : decode cX11_crease 109 = .ok (.invokevirtual 209, 3) := by decide +kernel
theorem dX11_crease_112 : decode cX11_crease 112 = .ok (.istore 8, 2) := by decide +kernel
theorem dX11_crease_114 : decode cX11_crease 114 = .ok (.aload_n 0, 1) := by decide +kernel
theorem dX11_crease_115 : decode cX11_crease 115 = .ok (.getfield 10, 3) := by decide +kernel
theorem dX11_crease_118 : decode cX11_crease 118 = .ok (.getfield 180, 3) := by decide +kernel
theorem dX11_crease_121 : decode cX11_crease 121 = .ok (.iload 6, 2) := by decide +kernel
theorem dX11_crease_123 : decode cX11_crease 123 = .ok (.iload 7, 2) := by decide +kernel
theorem dX11_crease_125 : decode cX11_crease 125 = .ok (.iload_n 3, 1) := by decide +kernel
theorem dX11_crease_126 : decode cX11_crease 126 = .ok (.iload 5, 2) := by decide +kernel
theorem dX11_crease_128 : decode cX11_crease 128 = .ok (.invokevirtual 212, 3) := by decide +kernel
theorem dX11_crease_131 : decode cX11_crease 131 = .ok (.iload 8, 2) := by decide +kernel
theorem dX11_crease_133 : decode cX11_crease 133 = .ok (.ifCond .ne 7, 3) := by decide +kernel
theorem dX11_crease_136 : decode cX11_crease 136 = .ok (.iconst 5, 1) := by decide +kernel
theorem dX11_crease_137 : decode cX11_crease 137 = .ok (.goto 10, 3) := by decide +kernel
theorem dX11_crease_140 : decode cX11_crease 140 = .ok (.iload 8, 2) := by decide +kernel
theorem dX11_crease_142 : decode cX11_crease 142 = .ok (.iconst 2, 1) := by decide +kernel
theorem dX11_crease_143 : decode cX11_crease 143 = .ok (.isub, 1) := by decide +kernel
theorem dX11_crease_144 : decode cX11_crease 144 = .ok (.invokestatic 153, 3) := by decide +kernel
theorem dX11_crease_147 : decode cX11_crease 147 = .ok (.ireturn, 1) := by decide +kernel
theorem dX11_turn_0 : decode cX11_turn 0 = .ok (.iload_n 1, 1) := by decide +kernel
theorem dX11_turn_1 : decode cX11_turn 1 = .ok (.invokestatic 111, 3) := by decide +kernel
theorem dX11_turn_4 : decode cX11_turn 4 = .ok (.ifCond .ne 6, 3) := by decide +kernel
theorem dX11_turn_7 : decode cX11_turn 7 = .ok (.bipush (-3), 2) := by decide +kernel
theorem dX11_turn_9 : decode cX11_turn 9 = .ok (.ireturn, 1) := by decide +kernel
theorem dX11_turn_10 : decode cX11_turn 10 = .ok (.aload_n 0, 1) := by decide +kernel
theorem dX11_turn_11 : decode cX11_turn 11 = .ok (.getfield 19, 3) := by decide +kernel
theorem dX11_turn_14 : decode cX11_turn 14 = .ok (.aload_n 0, 1) := by decide +kernel
theorem dX11_turn_15 : decode cX11_turn 15 = .ok (.getfield 10, 3) := by decide +kernel
theorem dX11_turn_18 : decode cX11_turn 18 = .ok (.invokevirtual 83, 3) := by decide +kernel
theorem dX11_turn_21 : decode cX11_turn 21 = .ok (.aload_n 0, 1) := by decide +kernel
theorem dX11_turn_22 : decode cX11_turn 22 = .ok (.getfield 75, 3) := by decide +kernel
theorem dX11_turn_25 : decode cX11_turn 25 = .ok (.aload_n 0, 1) := by decide +kernel
theorem dX11_turn_26 : decode cX11_turn 26 = .ok (.getfield 10, 3) := by decide +kernel
theorem dX11_turn_29 : decode cX11_turn 29 = .ok (.getfield 180, 3) := by decide +kernel
theorem dX11_turn_32 : decode cX11_turn 32 = .ok (.invokevirtual 216, 3) := by decide +kernel
theorem dX11_turn_35 : decode cX11_turn 35 = .ok (.aload_n 0, 1) := by decide +kernel
theorem dX11_turn_36 : decode cX11_turn 36 = .ok (.getfield 10, 3) := by decide +kernel
theorem dX11_turn_39 : decode cX11_turn 39 = .ok (.getfield 180, 3) := by decide +kernel
theorem dX11_turn_42 : decode cX11_turn 42 = .ok (.aload_n 0, 1) := by decide +kernel
theorem dX11_turn_43 : decode cX11_turn 43 = .ok (.getfield 75, 3) := by decide +kernel
theorem dX11_turn_46 : decode cX11_turn 46 = .ok (.iload_n 1, 1) := by decide +kernel
theorem dX11_turn_47 : decode cX11_turn 47 = .ok (.ifCond .ne 7, 3) := by decide +kernel
theorem dX11_turn_50 : decode cX11_turn 50 = .ok (.iconst 1, 1) := by decide +kernel
theorem dX11_turn_51 : decode cX11_turn 51 = .ok (.goto 4, 3) := by decide +kernel
theorem dX11_turn_54 : decode cX11_turn 54 = .ok (.iconst 0, 1) := by decide +kernel
theorem dX11_turn_55 : decode cX11_turn 55 = .ok (.iload_n 1, 1) := by decide +kernel
theorem dX11_turn_56 : decode cX11_turn 56 = .ok (.iconst 1, 1) := by decide +kernel
theorem dX11_turn_57 : decode cX11_turn 57 = .ok (.if_icmp .ne 7, 3) := by decide +kernel
theorem dX11_turn_60 : decode cX11_turn 60 = .ok (.iconst 1, 1) := by decide +kernel
theorem dX11_turn_61 : decode cX11_turn 61 = .ok (.goto 4, 3) := by decide +kernel
theorem dX11_turn_64 : decode cX11_turn 64 = .ok (.iconst 0, 1) := by decide +kernel
theorem dX11_turn_65 : decode cX11_turn 65 = .ok (.invokevirtual 220, 3) := by decide +kernel
theorem dX11_turn_68 : decode cX11_turn 68 = .ok (.iconst 0, 1) := by decide +kernel
theorem dX11_turn_69 : decode cX11_turn 69 = .ok (.ireturn, 1) := by decide +kernel
theorem dX11_clear_0 : decode cX11_clear 0 = .ok (.aload_n 0, 1) := by decide +kernel
theorem dX11_clear_1 : decode cX11_clear 1 = .ok (.getfield 19, 3) := by decide +kernel
theorem dX11_clear_4 : decode cX11_clear 4 = .ok (.aload_n 0, 1) := by decide +kernel
theorem dX11_clear_5 : decode cX11_clear 5 = .ok (.getfield 10, 3) := by decide +kernel
theorem dX11_clear_8 : decode cX11_clear 8 = .ok (.invokevirtual 83, 3) := by decide +kernel
theorem dX11_clear_11 : decode cX11_clear 11 = .ok (.aload_n 0, 1) := by decide +kernel
theorem dX11_clear_12 : decode cX11_clear 12 = .ok (.getfield 10, 3) := by decide +kernel
theorem dX11_clear_15 : decode cX11_clear 15 = .ok (.getfield 180, 3) := by decide +kernel
theorem dX11_clear_18 : decode cX11_clear 18 = .ok (.invokevirtual 196, 3) := by decide +kernel
theorem dX11_clear_21 : decode cX11_clear 21 = .ok (.istore_n 1, 1) := by decide +kernel
theorem dX11_clear_22 : decode cX11_clear 22 = .ok (.aload_n 0, 1) := by decide +kernel
theorem dX11_clear_23 : decode cX11_clear 23 = .ok (.getfield 10, 3) := by decide +kernel
theorem dX11_clear_26 : decode cX11_clear 26 = .ok (.getfield 180, 3) := by decide +kernel
theorem dX11_clear_29 : decode cX11_clear 29 = .ok (.invokevirtual 224, 3) := by decide +kernel
theorem dX11_clear_32 : decode cX11_clear 32 = .ok (.iload_n 1, 1) := by decide +kernel
theorem dX11_clear_33 : decode cX11_clear 33 = .ok (.ireturn, 1) := by decide +kernel
theorem dX11_told_0 : decode cX11_told 0 = .ok (.iload_n 1, 1) := by decide +kernel
theorem dX11_told_1 : decode cX11_told 1 = .ok (.aload_n 0, 1) := by decide +kernel
theorem dX11_told_2 : decode cX11_told 2 = .ok (.getfield 10, 3) := by decide +kernel
theorem dX11_told_5 : decode cX11_told 5 = .ok (.getfield 180, 3) := by decide +kernel
theorem dX11_told_8 : decode cX11_told 8 = .ok (.invokevirtual 196, 3) := by decide +kernel
theorem dX11_told_11 : decode cX11_told 11 = .ok (.invokestatic 131, 3) := by decide +kernel
theorem dX11_told_14 : decode cX11_told 14 = .ok (.ifCond .eq 11, 3) := by decide +kernel
theorem dX11_told_17 : decode cX11_told 17 = .ok (.iload_n 2, 1) := by decide +kernel
theorem dX11_told_18 : decode cX11_told 18 = .ok (.iconst 3, 1) := by decide +kernel
theorem dX11_told_19 : decode cX11_told 19 = .ok (.invokestatic 131, 3) := by decide +kernel
theorem dX11_told_22 : decode cX11_told 22 = .ok (.ifCond .ne 6, 3) := by decide +kernel
theorem dX11_told_25 : decode cX11_told 25 = .ok (.bipush (-3), 2) := by decide +kernel
theorem dX11_told_27 : decode cX11_told 27 = .ok (.ireturn, 1) := by decide +kernel
theorem dX11_told_28 : decode cX11_told 28 = .ok (.iload_n 2, 1) := by decide +kernel
theorem dX11_told_29 : decode cX11_told 29 = .ok (.lookupswitch 51 #[(0, 27), (1, 39)], 27) := by decide +kernel
theorem dX11_told_56 : decode cX11_told 56 = .ok (.aload_n 0, 1) := by decide +kernel
theorem dX11_told_57 : decode cX11_told 57 = .ok (.getfield 10, 3) := by decide +kernel
theorem dX11_told_60 : decode cX11_told 60 = .ok (.getfield 180, 3) := by decide +kernel
theorem dX11_told_63 : decode cX11_told 63 = .ok (.iload_n 1, 1) := by decide +kernel
theorem dX11_told_64 : decode cX11_told 64 = .ok (.invokevirtual 227, 3) := by decide +kernel
theorem dX11_told_67 : decode cX11_told 67 = .ok (.ireturn, 1) := by decide +kernel
theorem dX11_told_68 : decode cX11_told 68 = .ok (.aload_n 0, 1) := by decide +kernel
theorem dX11_told_69 : decode cX11_told 69 = .ok (.getfield 10, 3) := by decide +kernel
theorem dX11_told_72 : decode cX11_told 72 = .ok (.getfield 180, 3) := by decide +kernel
theorem dX11_told_75 : decode cX11_told 75 = .ok (.iload_n 1, 1) := by decide +kernel
theorem dX11_told_76 : decode cX11_told 76 = .ok (.invokevirtual 230, 3) := by decide +kernel
theorem dX11_told_79 : decode cX11_told 79 = .ok (.ireturn, 1) := by decide +kernel
theorem dX11_told_80 : decode cX11_told 80 = .ok (.aload_n 0, 1) := by decide +kernel
theorem dX11_told_81 : decode cX11_told 81 = .ok (.getfield 10, 3) := by decide +kernel
theorem dX11_told_84 : decode cX11_told 84 = .ok (.getfield 180, 3) := by decide +kernel
theorem dX11_told_87 : decode cX11_told 87 = .ok (.iload_n 1, 1) := by decide +kernel
theorem dX11_told_88 : decode cX11_told 88 = .ok (.invokevirtual 233, 3) := by decide +kernel
theorem dX11_told_91 : decode cX11_told 91 = .ok (.ireturn, 1) := by decide +kernel
theorem dX11_fold_0 : decode cX11_fold 0 = .ok (.aload_n 0, 1) := by decide +kernel
theorem dX11_fold_1 : decode cX11_fold 1 = .ok (.getfield 54, 3) := by decide +kernel
theorem dX11_fold_4 : decode cX11_fold 4 = .ok (.aload_n 0, 1) := by decide +kernel
theorem dX11_fold_5 : decode cX11_fold 5 = .ok (.getfield 10, 3) := by decide +kernel
theorem dX11_fold_8 : decode cX11_fold 8 = .ok (.getfield 180, 3) := by decide +kernel
theorem dX11_fold_11 : decode cX11_fold 11 = .ok (.aload_n 0, 1) := by decide +kernel
theorem dX11_fold_12 : decode cX11_fold 12 = .ok (.getfield 47, 3) := by decide +kernel
theorem dX11_fold_15 : decode cX11_fold 15 = .ok (.invokevirtual 236, 3) := by decide +kernel
theorem dX11_fold_18 : decode cX11_fold 18 = .ok (.ireturn, 1) := by decide +kernel
theorem dX11_where_0 : decode cX11_where 0 = .ok (.iload_n 1, 1) := by decide +kernel
theorem dX11_where_1 : decode cX11_where 1 = .ok (.aload_n 0, 1) := by decide +kernel
theorem dX11_where_2 : decode cX11_where 2 = .ok (.getfield 10, 3) := by decide +kernel
theorem dX11_where_5 : decode cX11_where 5 = .ok (.getfield 180, 3) := by decide +kernel
theorem dX11_where_8 : decode cX11_where 8 = .ok (.invokevirtual 196, 3) := by decide +kernel
theorem dX11_where_11 : decode cX11_where 11 = .ok (.invokestatic 131, 3) := by decide +kernel
theorem dX11_where_14 : decode cX11_where 14 = .ok (.ifCond .eq 11, 3) := by decide +kernel
theorem dX11_where_17 : decode cX11_where 17 = .ok (.iload_n 2, 1) := by decide +kernel
theorem dX11_where_18 : decode cX11_where 18 = .ok (.iconst 5, 1) := by decide +kernel
theorem dX11_where_19 : decode cX11_where 19 = .ok (.invokestatic 131, 3) := by decide +kernel
theorem dX11_where_22 : decode cX11_where 22 = .ok (.ifCond .ne 6, 3) := by decide +kernel
theorem dX11_where_25 : decode cX11_where 25 = .ok (.bipush (-3), 2) := by decide +kernel
theorem dX11_where_27 : decode cX11_where 27 = .ok (.ireturn, 1) := by decide +kernel
theorem dX11_where_28 : decode cX11_where 28 = .ok (.aload_n 0, 1) := by decide +kernel
theorem dX11_where_29 : decode cX11_where 29 = .ok (.getfield 54, 3) := by decide +kernel
theorem dX11_where_32 : decode cX11_where 32 = .ok (.aload_n 0, 1) := by decide +kernel
theorem dX11_where_33 : decode cX11_where 33 = .ok (.getfield 10, 3) := by decide +kernel
theorem dX11_where_36 : decode cX11_where 36 = .ok (.getfield 180, 3) := by decide +kernel
theorem dX11_where_39 : decode cX11_where 39 = .ok (.aload_n 0, 1) := by decide +kernel
theorem dX11_where_40 : decode cX11_where 40 = .ok (.getfield 47, 3) := by decide +kernel
theorem dX11_where_43 : decode cX11_where 43 = .ok (.invokevirtual 236, 3) := by decide +kernel
theorem dX11_where_46 : decode cX11_where 46 = .ok (.ifCond .eq 6, 3) := by decide +kernel
theorem dX11_where_49 : decode cX11_where 49 = .ok (.bipush (-4), 2) := by decide +kernel
theorem dX11_where_51 : decode cX11_where 51 = .ok (.ireturn, 1) := by decide +kernel
theorem dX11_where_52 : decode cX11_where 52 = .ok (.aload_n 0, 1) := by decide +kernel
theorem dX11_where_53 : decode cX11_where 53 = .ok (.getfield 54, 3) := by decide +kernel
theorem dX11_where_56 : decode cX11_where 56 = .ok (.iload_n 1, 1) := by decide +kernel
theorem dX11_where_57 : decode cX11_where 57 = .ok (.iload_n 2, 1) := by decide +kernel
theorem dX11_where_58 : decode cX11_where 58 = .ok (.invokevirtual 240, 3) := by decide +kernel
theorem dX11_where_61 : decode cX11_where 61 = .ok (.istore_n 3, 1) := by decide +kernel
theorem dX11_where_62 : decode cX11_where 62 = .ok (.iload_n 3, 1) := by decide +kernel
theorem dX11_where_63 : decode cX11_where 63 = .ok (.ifCond .ge 11, 3) := by decide +kernel
theorem dX11_where_66 : decode cX11_where 66 = .ok (.iload_n 3, 1) := by decide +kernel
theorem dX11_where_67 : decode cX11_where 67 = .ok (.sipush 1000, 3) := by decide +kernel
theorem dX11_where_70 : decode cX11_where 70 = .ok (.iadd, 1) := by decide +kernel
theorem dX11_where_71 : decode cX11_where 71 = .ok (.goto 4, 3) := by decide +kernel
theorem dX11_where_74 : decode cX11_where 74 = .ok (.iload_n 3, 1) := by decide +kernel
theorem dX11_where_75 : decode cX11_where 75 = .ok (.ireturn, 1) := by decide +kernel
theorem dX11_closed_0 : decode cX11_closed 0 = .ok (.aload_n 0, 1) := by decide +kernel
theorem dX11_closed_1 : decode cX11_closed 1 = .ok (.getfield 54, 3) := by decide +kernel
theorem dX11_closed_4 : decode cX11_closed 4 = .ok (.aload_n 0, 1) := by decide +kernel
theorem dX11_closed_5 : decode cX11_closed 5 = .ok (.getfield 10, 3) := by decide +kernel
theorem dX11_closed_8 : decode cX11_closed 8 = .ok (.getfield 180, 3) := by decide +kernel
theorem dX11_closed_11 : decode cX11_closed 11 = .ok (.aload_n 0, 1) := by decide +kernel
theorem dX11_closed_12 : decode cX11_closed 12 = .ok (.getfield 47, 3) := by decide +kernel
theorem dX11_closed_15 : decode cX11_closed 15 = .ok (.invokevirtual 236, 3) := by decide +kernel
theorem dX11_closed_18 : decode cX11_closed 18 = .ok (.ifCond .ne 17, 3) := by decide +kernel
theorem dX11_closed_21 : decode cX11_closed 21 = .ok (.aload_n 0, 1) := by decide +kernel
theorem dX11_closed_22 : decode cX11_closed 22 = .ok (.getfield 54, 3) := by decide +kernel
theorem dX11_closed_25 : decode cX11_closed 25 = .ok (.invokevirtual 243, 3) := by decide +kernel
theorem dX11_closed_28 : decode cX11_closed 28 = .ok (.ifCond .eq 7, 3) := by decide +kernel
theorem dX11_closed_31 : decode cX11_closed 31 = .ok (.iconst 1, 1) := by decide +kernel
theorem dX11_closed_32 : decode cX11_closed 32 = .ok (.goto 4, 3) := by decide +kernel
theorem dX11_closed_35 : decode cX11_closed 35 = .ok (.iconst 0, 1) := by decide +kernel
theorem dX11_closed_36 : decode cX11_closed 36 = .ok (.ireturn, 1) := by decide +kernel
theorem dX11_form_0 : decode cX11_form 0 = .ok (.iload_n 1, 1) := by decide +kernel
theorem dX11_form_1 : decode cX11_form 1 = .ok (.ifCond .ge 6, 3) := by decide +kernel
theorem dX11_form_4 : decode cX11_form 4 = .ok (.bipush (-3), 2) := by decide +kernel
theorem dX11_form_6 : decode cX11_form 6 = .ok (.ireturn, 1) := by decide +kernel
theorem dX11_form_7 : decode cX11_form 7 = .ok (.aload_n 0, 1) := by decide +kernel
theorem dX11_form_8 : decode cX11_form 8 = .ok (.getfield 68, 3) := by decide +kernel
theorem dX11_form_11 : decode cX11_form 11 = .ok (.aload_n 0, 1) := by decide +kernel
theorem dX11_form_12 : decode cX11_form 12 = .ok (.getfield 10, 3) := by decide +kernel
theorem dX11_form_15 : decode cX11_form 15 = .ok (.getfield 180, 3) := by decide +kernel
theorem dX11_form_18 : decode cX11_form 18 = .ok (.invokevirtual 246, 3) := by decide +kernel
theorem dX11_form_21 : decode cX11_form 21 = .ok (.iload_n 1, 1) := by decide +kernel
theorem dX11_form_22 : decode cX11_form 22 = .ok (.aload_n 0, 1) := by decide +kernel
theorem dX11_form_23 : decode cX11_form 23 = .ok (.getfield 68, 3) := by decide +kernel
theorem dX11_form_26 : decode cX11_form 26 = .ok (.invokevirtual 248, 3) := by decide +kernel
theorem dX11_form_29 : decode cX11_form 29 = .ok (.if_icmp .ge 14, 3) := by decide +kernel
theorem dX11_form_32 : decode cX11_form 32 = .ok (.aload_n 0, 1) := by decide +kernel
theorem dX11_form_33 : decode cX11_form 33 = .ok (.getfield 68, 3) := by decide +kernel
theorem dX11_form_36 : decode cX11_form 36 = .ok (.iload_n 1, 1) := by decide +kernel
theorem dX11_form_37 : decode cX11_form 37 = .ok (.invokevirtual 251, 3) := by decide +kernel
theorem dX11_form_40 : decode cX11_form 40 = .ok (.goto 4, 3) := by decide +kernel
theorem dX11_form_43 : decode cX11_form 43 = .ok (.iconst (-1), 1) := by decide +kernel
theorem dX11_form_44 : decode cX11_form 44 = .ok (.ireturn, 1) := by decide +kernel
theorem dX11_same_0 : decode cX11_same 0 = .ok (.aload_n 0, 1) := by decide +kernel
theorem dX11_same_1 : decode cX11_same 1 = .ok (.getfield 68, 3) := by decide +kernel
theorem dX11_same_4 : decode cX11_same 4 = .ok (.aload_n 0, 1) := by decide +kernel
theorem dX11_same_5 : decode cX11_same 5 = .ok (.getfield 10, 3) := by decide +kernel
theorem dX11_same_8 : decode cX11_same 8 = .ok (.getfield 180, 3) := by decide +kernel
theorem dX11_same_11 : decode cX11_same 11 = .ok (.invokevirtual 246, 3) := by decide +kernel
theorem dX11_same_14 : decode cX11_same 14 = .ok (.aload_n 0, 1) := by decide +kernel
theorem dX11_same_15 : decode cX11_same 15 = .ok (.getfield 68, 3) := by decide +kernel
theorem dX11_same_18 : decode cX11_same 18 = .ok (.invokevirtual 254, 3) := by decide +kernel
theorem dX11_same_21 : decode cX11_same 21 = .ok (.ireturn, 1) := by decide +kernel
theorem dX11_shelve_0 : decode cX11_shelve 0 = .ok (.iload_n 1, 1) := by decide +kernel
theorem dX11_shelve_1 : decode cX11_shelve 1 = .ok (.bipush 6, 2) := by decide +kernel
theorem dX11_shelve_3 : decode cX11_shelve 3 = .ok (.invokestatic 131, 3) := by decide +kernel
theorem dX11_shelve_6 : decode cX11_shelve 6 = .ok (.ifCond .ne 6, 3) := by decide +kernel
theorem dX11_shelve_9 : decode cX11_shelve 9 = .ok (.bipush (-3), 2) := by decide +kernel
theorem dX11_shelve_11 : decode cX11_shelve 11 = .ok (.ireturn, 1) := by decide +kernel
theorem dX11_shelve_12 : decode cX11_shelve 12 = .ok (.aload_n 0, 1) := by decide +kernel
theorem dX11_shelve_13 : decode cX11_shelve 13 = .ok (.getfield 25, 3) := by decide +kernel
theorem dX11_shelve_16 : decode cX11_shelve 16 = .ok (.iload_n 1, 1) := by decide +kernel
theorem dX11_shelve_17 : decode cX11_shelve 17 = .ok (.aaload, 1) := by decide +kernel
theorem dX11_shelve_18 : decode cX11_shelve 18 = .ok (.aload_n 0, 1) := by decide +kernel
theorem dX11_shelve_19 : decode cX11_shelve 19 = .ok (.getfield 10, 3) := by decide +kernel
theorem dX11_shelve_22 : decode cX11_shelve 22 = .ok (.getfield 180, 3) := by decide +kernel
theorem dX11_shelve_25 : decode cX11_shelve 25 = .ok (.invokevirtual 216, 3) := by decide +kernel
theorem dX11_shelve_28 : decode cX11_shelve 28 = .ok (.aload_n 0, 1) := by decide +kernel
theorem dX11_shelve_29 : decode cX11_shelve 29 = .ok (.getfield 10, 3) := by decide +kernel
theorem dX11_shelve_32 : decode cX11_shelve 32 = .ok (.getfield 180, 3) := by decide +kernel
theorem dX11_shelve_35 : decode cX11_shelve 35 = .ok (.invokevirtual 196, 3) := by decide +kernel
theorem dX11_shelve_38 : decode cX11_shelve 38 = .ok (.ireturn, 1) := by decide +kernel
theorem dX11_alike_0 : decode cX11_alike 0 = .ok (.iload_n 1, 1) := by decide +kernel
theorem dX11_alike_1 : decode cX11_alike 1 = .ok (.bipush 6, 2) := by decide +kernel
theorem dX11_alike_3 : decode cX11_alike 3 = .ok (.invokestatic 131, 3) := by decide +kernel
theorem dX11_alike_6 : decode cX11_alike 6 = .ok (.ifCond .ne 6, 3) := by decide +kernel
theorem dX11_alike_9 : decode cX11_alike 9 = .ok (.bipush (-3), 2) := by decide +kernel
theorem dX11_alike_11 : decode cX11_alike 11 = .ok (.ireturn, 1) := by decide +kernel
theorem dX11_alike_12 : decode cX11_alike 12 = .ok (.aload_n 0, 1) := by decide +kernel
theorem dX11_alike_13 : decode cX11_alike 13 = .ok (.getfield 68, 3) := by decide +kernel
theorem dX11_alike_16 : decode cX11_alike 16 = .ok (.aload_n 0, 1) := by decide +kernel
theorem dX11_alike_17 : decode cX11_alike 17 = .ok (.getfield 10, 3) := by decide +kernel
theorem dX11_alike_20 : decode cX11_alike 20 = .ok (.getfield 180, 3) := by decide +kernel
theorem dX11_alike_23 : decode cX11_alike 23 = .ok (.invokevirtual 246, 3) := by decide +kernel
theorem dX11_alike_26 : decode cX11_alike 26 = .ok (.aload_n 0, 1) := by decide +kernel
theorem dX11_alike_27 : decode cX11_alike 27 = .ok (.getfield 72, 3) := by decide +kernel
theorem dX11_alike_30 : decode cX11_alike 30 = .ok (.aload_n 0, 1) := by decide +kernel
theorem dX11_alike_31 : decode cX11_alike 31 = .ok (.getfield 25, 3) := by decide +kernel
theorem dX11_alike_34 : decode cX11_alike 34 = .ok (.iload_n 1, 1) := by decide +kernel
theorem dX11_alike_35 : decode cX11_alike 35 = .ok (.aaload, 1) := by decide +kernel
theorem dX11_alike_36 : decode cX11_alike 36 = .ok (.invokevirtual 246, 3) := by decide +kernel
theorem dX11_alike_39 : decode cX11_alike 39 = .ok (.aload_n 0, 1) := by decide +kernel
theorem dX11_alike_40 : decode cX11_alike 40 = .ok (.getfield 68, 3) := by decide +kernel
theorem dX11_alike_43 : decode cX11_alike 43 = .ok (.aload_n 0, 1) := by decide +kernel
theorem dX11_alike_44 : decode cX11_alike 44 = .ok (.getfield 72, 3) := by decide +kernel
theorem dX11_alike_47 : decode cX11_alike 47 = .ok (.invokevirtual 257, 3) := by decide +kernel
theorem dX11_alike_50 : decode cX11_alike 50 = .ok (.ifCond .eq 7, 3) := by decide +kernel
theorem dX11_alike_53 : decode cX11_alike 53 = .ok (.iconst 1, 1) := by decide +kernel
theorem dX11_alike_54 : decode cX11_alike 54 = .ok (.goto 4, 3) := by decide +kernel
theorem dX11_alike_57 : decode cX11_alike 57 = .ok (.iconst 0, 1) := by decide +kernel
theorem dX11_alike_58 : decode cX11_alike 58 = .ok (.ireturn, 1) := by decide +kernel
theorem dX11_wraps_0 : decode cX11_wraps 0 = .ok (.aload_n 0, 1) := by decide +kernel
theorem dX11_wraps_1 : decode cX11_wraps 1 = .ok (.getfield 33, 3) := by decide +kernel
theorem dX11_wraps_4 : decode cX11_wraps 4 = .ok (.invokevirtual 124, 3) := by decide +kernel
theorem dX11_wraps_7 : decode cX11_wraps 7 = .ok (.ifCond .eq 6, 3) := by decide +kernel
theorem dX11_wraps_10 : decode cX11_wraps 10 = .ok (.bipush (-4), 2) := by decide +kernel
theorem dX11_wraps_12 : decode cX11_wraps 12 = .ok (.ireturn, 1) := by decide +kernel
theorem dX11_wraps_13 : decode cX11_wraps 13 = .ok (.aload_n 0, 1) := by decide +kernel
theorem dX11_wraps_14 : decode cX11_wraps 14 = .ok (.getfield 61, 3) := by decide +kernel
theorem dX11_wraps_17 : decode cX11_wraps 17 = .ok (.aload_n 0, 1) := by decide +kernel
theorem dX11_wraps_18 : decode cX11_wraps 18 = .ok (.getfield 10, 3) := by decide +kernel
theorem dX11_wraps_21 : decode cX11_wraps 21 = .ok (.getfield 180, 3) := by decide +kernel
theorem dX11_wraps_24 : decode cX11_wraps 24 = .ok (.aload_n 0, 1) := by decide +kernel
theorem dX11_wraps_25 : decode cX11_wraps 25 = .ok (.getfield 47, 3) := by decide +kernel
theorem dX11_wraps_28 : decode cX11_wraps 28 = .ok (.aload_n 0, 1) := by decide +kernel
theorem dX11_wraps_29 : decode cX11_wraps 29 = .ok (.getfield 33, 3) := by decide +kernel
theorem dX11_wraps_32 : decode cX11_wraps 32 = .ok (.invokevirtual 261, 3) := by decide +kernel
theorem dX11_wraps_35 : decode cX11_wraps 35 = .ok (.aload_n 0, 1) := by decide +kernel
theorem dX11_wraps_36 : decode cX11_wraps 36 = .ok (.getfield 61, 3) := by decide +kernel
theorem dX11_wraps_39 : decode cX11_wraps 39 = .ok (.invokevirtual 265, 3) := by decide +kernel
theorem dX11_wraps_42 : decode cX11_wraps 42 = .ok (.ireturn, 1) := by decide +kernel
theorem dX11_way_0 : decode cX11_way 0 = .ok (.iload_n 1, 1) := by decide +kernel
theorem dX11_way_1 : decode cX11_way 1 = .ok (.ifCond .lt 11, 3) := by decide +kernel
theorem dX11_way_4 : decode cX11_way 4 = .ok (.iload_n 2, 1) := by decide +kernel
theorem dX11_way_5 : decode cX11_way 5 = .ok (.iconst 3, 1) := by decide +kernel
theorem dX11_way_6 : decode cX11_way 6 = .ok (.invokestatic 131, 3) := by decide +kernel
theorem dX11_way_9 : decode cX11_way 9 = .ok (.ifCond .ne 6, 3) := by decide +kernel
theorem dX11_way_12 : decode cX11_way 12 = .ok (.bipush (-3), 2) := by decide +kernel
theorem dX11_way_14 : decode cX11_way 14 = .ok (.ireturn, 1) := by decide +kernel
theorem dX11_way_15 : decode cX11_way 15 = .ok (.aload_n 0, 1) := by decide +kernel
theorem dX11_way_16 : decode cX11_way 16 = .ok (.getfield 33, 3) := by decide +kernel
theorem dX11_way_19 : decode cX11_way 19 = .ok (.invokevirtual 124, 3) := by decide +kernel
theorem dX11_way_22 : decode cX11_way 22 = .ok (.ifCond .eq 6, 3) := by decide +kernel
theorem dX11_way_25 : decode cX11_way 25 = .ok (.bipush (-4), 2) := by decide +kernel
theorem dX11_way_27 : decode cX11_way 27 = .ok (.ireturn, 1) := by decide +kernel
theorem dX11_way_28 : decode cX11_way 28 = .ok (.aload_n 0, 1) := by decide +kernel
theorem dX11_way_29 : decode cX11_way 29 = .ok (.getfield 61, 3) := by decide +kernel
theorem dX11_way_32 : decode cX11_way 32 = .ok (.aload_n 0, 1) := by decide +kernel
theorem dX11_way_33 : decode cX11_way 33 = .ok (.getfield 10, 3) := by decide +kernel
theorem dX11_way_36 : decode cX11_way 36 = .ok (.getfield 180, 3) := by decide +kernel
theorem dX11_way_39 : decode cX11_way 39 = .ok (.aload_n 0, 1) := by decide +kernel
theorem dX11_way_40 : decode cX11_way 40 = .ok (.getfield 47, 3) := by decide +kernel
theorem dX11_way_43 : decode cX11_way 43 = .ok (.aload_n 0, 1) := by decide +kernel
theorem dX11_way_44 : decode cX11_way 44 = .ok (.getfield 33, 3) := by decide +kernel
theorem dX11_way_47 : decode cX11_way 47 = .ok (.invokevirtual 261, 3) := by decide +kernel
theorem dX11_way_50 : decode cX11_way 50 = .ok (.iload_n 1, 1) := by decide +kernel
theorem dX11_way_51 : decode cX11_way 51 = .ok (.aload_n 0, 1) := by decide +kernel
theorem dX11_way_52 : decode cX11_way 52 = .ok (.getfield 61, 3) := by decide +kernel
theorem dX11_way_55 : decode cX11_way 55 = .ok (.invokevirtual 265, 3) := by decide +kernel
theorem dX11_way_58 : decode cX11_way 58 = .ok (.if_icmp .lt 5, 3) := by decide +kernel
theorem dX11_way_61 : decode cX11_way 61 = .ok (.iconst (-1), 1) := by decide +kernel
theorem dX11_way_62 : decode cX11_way 62 = .ok (.ireturn, 1) := by decide +kernel
theorem dX11_way_63 : decode cX11_way 63 = .ok (.iload_n 2, 1) := by decide +kernel
theorem dX11_way_64 : decode cX11_way 64 = .ok (.lookupswitch 46 #[(0, 28), (1, 37)], 28) := by decide +kernel
theorem dX11_way_92 : decode cX11_way 92 = .ok (.aload_n 0, 1) := by decide +kernel
theorem dX11_way_93 : decode cX11_way 93 = .ok (.getfield 61, 3) := by decide +kernel
theorem dX11_way_96 : decode cX11_way 96 = .ok (.iload_n 1, 1) := by decide +kernel
theorem dX11_way_97 : decode cX11_way 97 = .ok (.invokevirtual 268, 3) := by decide +kernel
theorem dX11_way_100 : decode cX11_way 100 = .ok (.ireturn, 1) := by decide +kernel
theorem dX11_way_101 : decode cX11_way 101 = .ok (.aload_n 0, 1) := by decide +kernel
theorem dX11_way_102 : decode cX11_way 102 = .ok (.getfield 61, 3) := by decide +kernel
theorem dX11_way_105 : decode cX11_way 105 = .ok (.iload_n 1, 1) := by decide +kernel
theorem dX11_way_106 : decode cX11_way 106 = .ok (.invokevirtual 271, 3) := by decide +kernel
theorem dX11_way_109 : decode cX11_way 109 = .ok (.ireturn, 1) := by decide +kernel
theorem dX11_way_110 : decode cX11_way 110 = .ok (.aload_n 0, 1) := by decide +kernel
theorem dX11_way_111 : decode cX11_way 111 = .ok (.getfield 61, 3) := by decide +kernel
theorem dX11_way_114 : decode cX11_way 114 = .ok (.iload_n 1, 1) := by decide +kernel
theorem dX11_way_115 : decode cX11_way 115 = .ok (.invokevirtual 274, 3) := by decide +kernel
theorem dX11_way_118 : decode cX11_way 118 = .ok (.ifCond .eq 7, 3) := by decide +kernel
theorem dX11_way_121 : decode cX11_way 121 = .ok (.iconst 1, 1) := by decide +kernel
theorem dX11_way_122 : decode cX11_way 122 = .ok (.goto 4, 3) := by decide +kernel
theorem dX11_way_125 : decode cX11_way 125 = .ok (.iconst 0, 1) := by decide +kernel
theorem dX11_way_126 : decode cX11_way 126 = .ok (.ireturn, 1) := by decide +kernel
theorem dX11_undo_0 : decode cX11_undo 0 = .ok (.aload_n 0, 1) := by decide +kernel
theorem dX11_undo_1 : decode cX11_undo 1 = .ok (.getfield 19, 3) := by decide +kernel
theorem dX11_undo_4 : decode cX11_undo 4 = .ok (.invokevirtual 277, 3) := by decide +kernel
theorem dX11_undo_7 : decode cX11_undo 7 = .ok (.ifCond .ne 6, 3) := by decide +kernel
theorem dX11_undo_10 : decode cX11_undo 10 = .ok (.bipush (-4), 2) := by decide +kernel
theorem dX11_undo_12 : decode cX11_undo 12 = .ok (.ireturn, 1) := by decide +kernel
theorem dX11_undo_13 : decode cX11_undo 13 = .ok (.aload_n 0, 1) := by decide +kernel
theorem dX11_undo_14 : decode cX11_undo 14 = .ok (.getfield 19, 3) := by decide +kernel
theorem dX11_undo_17 : decode cX11_undo 17 = .ok (.aload_n 0, 1) := by decide +kernel
theorem dX11_undo_18 : decode cX11_undo 18 = .ok (.getfield 10, 3) := by decide +kernel
theorem dX11_undo_21 : decode cX11_undo 21 = .ok (.invokevirtual 278, 3) := by decide +kernel
theorem dX11_undo_24 : decode cX11_undo 24 = .ok (.aload_n 0, 1) := by decide +kernel
theorem dX11_undo_25 : decode cX11_undo 25 = .ok (.getfield 33, 3) := by decide +kernel
theorem dX11_undo_28 : decode cX11_undo 28 = .ok (.aload_n 0, 1) := by decide +kernel
theorem dX11_undo_29 : decode cX11_undo 29 = .ok (.getfield 10, 3) := by decide +kernel
theorem dX11_undo_32 : decode cX11_undo 32 = .ok (.getfield 87, 3) := by decide +kernel
theorem dX11_undo_35 : decode cX11_undo 35 = .ok (.invokevirtual 281, 3) := by decide +kernel
theorem dX11_undo_38 : decode cX11_undo 38 = .ok (.aload_n 0, 1) := by decide +kernel
theorem dX11_undo_39 : decode cX11_undo 39 = .ok (.getfield 19, 3) := by decide +kernel
theorem dX11_undo_42 : decode cX11_undo 42 = .ok (.invokevirtual 277, 3) := by decide +kernel
theorem dX11_undo_45 : decode cX11_undo 45 = .ok (.ireturn, 1) := by decide +kernel
theorem dX11_count_0 : decode cX11_count 0 = .ok (.iload_n 1, 1) := by decide +kernel
theorem dX11_count_1 : decode cX11_count 1 = .ok (.tableswitch 87 0 4 #[35, 46, 57, 68, 79], 35) := by decide +kernel
theorem dX11_count_36 : decode cX11_count 36 = .ok (.aload_n 0, 1) := by decide +kernel
theorem dX11_count_37 : decode cX11_count 37 = .ok (.getfield 10, 3) := by decide +kernel
theorem dX11_count_40 : decode cX11_count 40 = .ok (.getfield 87, 3) := by decide +kernel
theorem dX11_count_43 : decode cX11_count 43 = .ok (.invokevirtual 284, 3) := by decide +kernel
theorem dX11_count_46 : decode cX11_count 46 = .ok (.ireturn, 1) := by decide +kernel
theorem dX11_count_47 : decode cX11_count 47 = .ok (.aload_n 0, 1) := by decide +kernel
theorem dX11_count_48 : decode cX11_count 48 = .ok (.getfield 10, 3) := by decide +kernel
theorem dX11_count_51 : decode cX11_count 51 = .ok (.getfield 87, 3) := by decide +kernel
theorem dX11_count_54 : decode cX11_count 54 = .ok (.invokevirtual 287, 3) := by decide +kernel
theorem dX11_count_57 : decode cX11_count 57 = .ok (.ireturn, 1) := by decide +kernel
theorem dX11_count_58 : decode cX11_count 58 = .ok (.aload_n 0, 1) := by decide +kernel
theorem dX11_count_59 : decode cX11_count 59 = .ok (.getfield 10, 3) := by decide +kernel
theorem dX11_count_62 : decode cX11_count 62 = .ok (.getfield 180, 3) := by decide +kernel
theorem dX11_count_65 : decode cX11_count 65 = .ok (.invokevirtual 196, 3) := by decide +kernel
theorem dX11_count_68 : decode cX11_count 68 = .ok (.ireturn, 1) := by decide +kernel
theorem dX11_count_69 : decode cX11_count 69 = .ok (.aload_n 0, 1) := by decide +kernel
theorem dX11_count_70 : decode cX11_count 70 = .ok (.getfield 10, 3) := by decide +kernel
theorem dX11_count_73 : decode cX11_count 73 = .ok (.getfield 180, 3) := by decide +kernel
theorem dX11_count_76 : decode cX11_count 76 = .ok (.invokevirtual 187, 3) := by decide +kernel
theorem dX11_count_79 : decode cX11_count 79 = .ok (.ireturn, 1) := by decide +kernel
theorem dX11_count_80 : decode cX11_count 80 = .ok (.aload_n 0, 1) := by decide +kernel
theorem dX11_count_81 : decode cX11_count 81 = .ok (.getfield 19, 3) := by decide +kernel
theorem dX11_count_84 : decode cX11_count 84 = .ok (.invokevirtual 277, 3) := by decide +kernel
theorem dX11_count_87 : decode cX11_count 87 = .ok (.ireturn, 1) := by decide +kernel
theorem dX11_count_88 : decode cX11_count 88 = .ok (.bipush (-3), 2) := by decide +kernel
theorem dX11_count_90 : decode cX11_count 90 = .ok (.ireturn, 1) := by decide +kernel
theorem dX11_bodyHasChanged_0 : decode cX11_bodyHasChanged 0 = .ok (.aload_n 0, 1) := by decide +kernel
theorem dX11_bodyHasChanged_1 : decode cX11_bodyHasChanged 1 = .ok (.getfield 10, 3) := by decide +kernel
theorem dX11_bodyHasChanged_4 : decode cX11_bodyHasChanged 4 = .ok (.getfield 156, 3) := by decide +kernel
theorem dX11_bodyHasChanged_7 : decode cX11_bodyHasChanged 7 = .ok (.invokevirtual 290, 3) := by decide +kernel
theorem dX11_bodyHasChanged_10 : decode cX11_bodyHasChanged 10 = .ok (.aload_n 0, 1) := by decide +kernel
theorem dX11_bodyHasChanged_11 : decode cX11_bodyHasChanged 11 = .ok (.getfield 33, 3) := by decide +kernel
theorem dX11_bodyHasChanged_14 : decode cX11_bodyHasChanged 14 = .ok (.aload_n 0, 1) := by decide +kernel
theorem dX11_bodyHasChanged_15 : decode cX11_bodyHasChanged 15 = .ok (.getfield 10, 3) := by decide +kernel
theorem dX11_bodyHasChanged_18 : decode cX11_bodyHasChanged 18 = .ok (.getfield 87, 3) := by decide +kernel
theorem dX11_bodyHasChanged_21 : decode cX11_bodyHasChanged 21 = .ok (.invokevirtual 281, 3) := by decide +kernel
theorem dX11_bodyHasChanged_24 : decode cX11_bodyHasChanged 24 = .ok (.return_, 1) := by decide +kernel
theorem dX11_isWithin_0 : decode cX11_isWithin 0 = .ok (.iload_n 0, 1) := by decide +kernel
theorem dX11_isWithin_1 : decode cX11_isWithin 1 = .ok (.ifCond .lt 12, 3) := by decide +kernel
theorem dX11_isWithin_4 : decode cX11_isWithin 4 = .ok (.iload_n 0, 1) := by decide +kernel
theorem dX11_isWithin_5 : decode cX11_isWithin 5 = .ok (.iload_n 1, 1) := by decide +kernel
theorem dX11_isWithin_6 : decode cX11_isWithin 6 = .ok (.if_icmp .ge 7, 3) := by decide +kernel
theorem dX11_isWithin_9 : decode cX11_isWithin 9 = .ok (.iconst 1, 1) := by decide +kernel
theorem dX11_isWithin_10 : decode cX11_isWithin 10 = .ok (.goto 4, 3) := by decide +kernel
theorem dX11_isWithin_13 : decode cX11_isWithin 13 = .ok (.iconst 0, 1) := by decide +kernel
theorem dX11_isWithin_14 : decode cX11_isWithin 14 = .ok (.ireturn, 1) := by decide +kernel
theorem dX11_isLayer_0 : decode cX11_isLayer 0 = .ok (.iload_n 0, 1) := by decide +kernel
theorem dX11_isLayer_1 : decode cX11_isLayer 1 = .ok (.iconst 4, 1) := by decide +kernel
theorem dX11_isLayer_2 : decode cX11_isLayer 2 = .ok (.invokestatic 131, 3) := by decide +kernel
theorem dX11_isLayer_5 : decode cX11_isLayer 5 = .ok (.ireturn, 1) := by decide +kernel
theorem dX11_isSwitch_0 : decode cX11_isSwitch 0 = .ok (.iload_n 0, 1) := by decide +kernel
theorem dX11_isSwitch_1 : decode cX11_isSwitch 1 = .ok (.ifCond .eq 8, 3) := by decide +kernel
theorem dX11_isSwitch_4 : decode cX11_isSwitch 4 = .ok (.iload_n 0, 1) := by decide +kernel
theorem dX11_isSwitch_5 : decode cX11_isSwitch 5 = .ok (.iconst 1, 1) := by decide +kernel
theorem dX11_isSwitch_6 : decode cX11_isSwitch 6 = .ok (.if_icmp .ne 7, 3) := by decide +kernel
theorem dX11_isSwitch_9 : decode cX11_isSwitch 9 = .ok (.iconst 1, 1) := by decide +kernel
theorem dX11_isSwitch_10 : decode cX11_isSwitch 10 = .ok (.goto 4, 3) := by decide +kernel
theorem dX11_isSwitch_13 : decode cX11_isSwitch 13 = .ok (.iconst 0, 1) := by decide +kernel
theorem dX11_isSwitch_14 : decode cX11_isSwitch 14 = .ok (.ireturn, 1) := by decide +kernel
theorem dX11_isLength_0 : decode cX11_isLength 0 = .ok (.iload_n 0, 1) := by decide +kernel
theorem dX11_isLength_1 : decode cX11_isLength 1 = .ok (.iconst 1, 1) := by decide +kernel
theorem dX11_isLength_2 : decode cX11_isLength 2 = .ok (.if_icmp .lt 12, 3) := by decide +kernel
theorem dX11_isLength_5 : decode cX11_isLength 5 = .ok (.iload_n 0, 1) := by decide +kernel
theorem dX11_isLength_6 : decode cX11_isLength 6 = .ok (.iconst 4, 1) := by decide +kernel
theorem dX11_isLength_7 : decode cX11_isLength 7 = .ok (.if_icmp .gt 7, 3) := by decide +kernel
theorem dX11_isLength_10 : decode cX11_isLength 10 = .ok (.iconst 1, 1) := by decide +kernel
theorem dX11_isLength_11 : decode cX11_isLength 11 = .ok (.goto 4, 3) := by decide +kernel
theorem dX11_isLength_14 : decode cX11_isLength 14 = .ok (.iconst 0, 1) := by decide +kernel
theorem dX11_isLength_15 : decode cX11_isLength 15 = .ok (.ireturn, 1) := by decide +kernel
theorem dX11_isOnTable_0 : decode cX11_isOnTable 0 = .ok (.iload_n 0, 1) := by decide +kernel
theorem dX11_isOnTable_1 : decode cX11_isOnTable 1 = .ok (.bipush (-30), 2) := by decide +kernel
theorem dX11_isOnTable_3 : decode cX11_isOnTable 3 = .ok (.if_icmp .lt 13, 3) := by decide +kernel
theorem dX11_isOnTable_6 : decode cX11_isOnTable 6 = .ok (.iload_n 0, 1) := by decide +kernel
theorem dX11_isOnTable_7 : decode cX11_isOnTable 7 = .ok (.bipush 30, 2) := by decide +kernel
theorem dX11_isOnTable_9 : decode cX11_isOnTable 9 = .ok (.if_icmp .gt 7, 3) := by decide +kernel
theorem dX11_isOnTable_12 : decode cX11_isOnTable 12 = .ok (.iconst 1, 1) := by decide +kernel
theorem dX11_isOnTable_13 : decode cX11_isOnTable 13 = .ok (.goto 4, 3) := by decide +kernel
theorem dX11_isOnTable_16 : decode cX11_isOnTable 16 = .ok (.iconst 0, 1) := by decide +kernel
theorem dX11_isOnTable_17 : decode cX11_isOnTable 17 = .ok (.ireturn, 1) := by decide +kernel
theorem dX11_arePlaces_0 : decode cX11_arePlaces 0 = .ok (.iload_n 1, 1) := by decide +kernel
theorem dX11_arePlaces_1 : decode cX11_arePlaces 1 = .ok (.ifCond .lt 19, 3) := by decide +kernel
theorem dX11_arePlaces_4 : decode cX11_arePlaces 4 = .ok (.iload_n 0, 1) := by decide +kernel
theorem dX11_arePlaces_5 : decode cX11_arePlaces 5 = .ok (.ifCond .lt 15, 3) := by decide +kernel
theorem dX11_arePlaces_8 : decode cX11_arePlaces 8 = .ok (.iload_n 0, 1) := by decide +kernel
theorem dX11_arePlaces_9 : decode cX11_arePlaces 9 = .ok (.bipush 16, 2) := by decide +kernel
theorem dX11_arePlaces_11 : decode cX11_arePlaces 11 = .ok (.iload_n 1, 1) := by decide +kernel
theorem dX11_arePlaces_12 : decode cX11_arePlaces 12 = .ok (.isub, 1) := by decide +kernel
theorem dX11_arePlaces_13 : decode cX11_arePlaces 13 = .ok (.if_icmp .gt 7, 3) := by decide +kernel
theorem dX11_arePlaces_16 : decode cX11_arePlaces 16 = .ok (.iconst 1, 1) := by decide +kernel
theorem dX11_arePlaces_17 : decode cX11_arePlaces 17 = .ok (.goto 4, 3) := by decide +kernel
theorem dX11_arePlaces_20 : decode cX11_arePlaces 20 = .ok (.iconst 0, 1) := by decide +kernel
theorem dX11_arePlaces_21 : decode cX11_arePlaces 21 = .ok (.ireturn, 1) := by decide +kernel
theorem dX11_toldStep_0 : decode cX11_toldStep 0 = .ok (.iload_n 0, 1) := by decide +kernel
theorem dX11_toldStep_1 : decode cX11_toldStep 1 = .ok (.ifCond .ge 8, 3) := by decide +kernel
theorem dX11_toldStep_4 : decode cX11_toldStep 4 = .ok (.bipush 9, 2) := by decide +kernel
theorem dX11_toldStep_6 : decode cX11_toldStep 6 = .ok (.goto 4, 3) := by decide +kernel
theorem dX11_toldStep_9 : decode cX11_toldStep 9 = .ok (.iload_n 0, 1) := by decide +kernel
theorem dX11_toldStep_10 : decode cX11_toldStep 10 = .ok (.ireturn, 1) := by decide +kernel
theorem dX11_creaseMeant_0 : decode cX11_creaseMeant 0 = .ok (.iload_n 0, 1) := by decide +kernel
theorem dX11_creaseMeant_1 : decode cX11_creaseMeant 1 = .ok (.tableswitch 63 0 9 #[59, 61, 63, 63, 63, 55, 63, 63, 63, 57], 55) := by decide +kernel
theorem dX11_creaseMeant_56 : decode cX11_creaseMeant 56 = .ok (.iconst 0, 1) := by decide +kernel
theorem dX11_creaseMeant_57 : decode cX11_creaseMeant 57 = .ok (.ireturn, 1) := by decide +kernel
theorem dX11_creaseMeant_58 : decode cX11_creaseMeant 58 = .ok (.iconst 1, 1) := by decide +kernel
theorem dX11_creaseMeant_59 : decode cX11_creaseMeant 59 = .ok (.ireturn, 1) := by decide +kernel
theorem dX11_creaseMeant_60 : decode cX11_creaseMeant 60 = .ok (.iconst 2, 1) := by decide +kernel
theorem dX11_creaseMeant_61 : decode cX11_creaseMeant 61 = .ok (.ireturn, 1) := by decide +kernel
theorem dX11_creaseMeant_62 : decode cX11_creaseMeant 62 = .ok (.iconst 3, 1) := by decide +kernel
theorem dX11_creaseMeant_63 : decode cX11_creaseMeant 63 = .ok (.ireturn, 1) := by decide +kernel
theorem dX11_creaseMeant_64 : decode cX11_creaseMeant 64 = .ok (.iconst (-1), 1) := by decide +kernel
theorem dX11_creaseMeant_65 : decode cX11_creaseMeant 65 = .ok (.ireturn, 1) := by decide +kernel
theorem dX12_init_0 : decode cX12_init 0 = .ok (.aload_n 0, 1) := by decide +kernel
theorem dX12_init_1 : decode cX12_init 1 = .ok (.invokespecial 1, 3) := by decide +kernel
theorem dX12_init_4 : decode cX12_init 4 = .ok (.aload_n 0, 1) := by decide +kernel
theorem dX12_init_5 : decode cX12_init 5 = .ok (.iconst 4, 1) := by decide +kernel
theorem dX12_init_6 : decode cX12_init 6 = .ok (.newarray .int, 2) := by decide +kernel
theorem dX12_init_8 : decode cX12_init 8 = .ok (.putfield 7, 3) := by decide +kernel
theorem dX12_init_11 : decode cX12_init 11 = .ok (.aload_n 0, 1) := by decide +kernel
theorem dX12_init_12 : decode cX12_init 12 = .ok (.bipush 64, 2) := by decide +kernel
theorem dX12_init_14 : decode cX12_init 14 = .ok (.newarray .int, 2) := by decide +kernel
theorem dX12_init_16 : decode cX12_init 16 = .ok (.putfield 13, 3) := by decide +kernel
theorem dX12_init_19 : decode cX12_init 19 = .ok (.aload_n 0, 1) := by decide +kernel
theorem dX12_init_20 : decode cX12_init 20 = .ok (.sipush 1536, 3) := by decide +kernel
theorem dX12_init_23 : decode cX12_init 23 = .ok (.newarray .int, 2) := by decide +kernel
theorem dX12_init_25 : decode cX12_init 25 = .ok (.putfield 16, 3) := by decide +kernel
theorem dX12_init_28 : decode cX12_init 28 = .ok (.aload_n 0, 1) := by decide +kernel
theorem dX12_init_29 : decode cX12_init 29 = .ok (.bipush 60, 2) := by decide +kernel
theorem dX12_init_31 : decode cX12_init 31 = .ok (.newarray .int, 2) := by decide +kernel
theorem dX12_init_33 : decode cX12_init 33 = .ok (.putfield 19, 3) := by decide +kernel
theorem dX12_init_36 : decode cX12_init 36 = .ok (.aload_n 0, 1) := by decide +kernel
theorem dX12_init_37 : decode cX12_init 37 = .ok (.bipush 60, 2) := by decide +kernel
theorem dX12_init_39 : decode cX12_init 39 = .ok (.newarray .int, 2) := by decide +kernel
theorem dX12_init_41 : decode cX12_init 41 = .ok (.putfield 22, 3) := by decide +kernel
theorem dX12_init_44 : decode cX12_init 44 = .ok (.aload_n 0, 1) := by decide +kernel
theorem dX12_init_45 : decode cX12_init 45 = .ok (.bipush 60, 2) := by decide +kernel
theorem dX12_init_47 : decode cX12_init 47 = .ok (.newarray .int, 2) := by decide +kernel
theorem dX12_init_49 : decode cX12_init 49 = .ok (.putfield 25, 3) := by decide +kernel
theorem dX12_init_52 : decode cX12_init 52 = .ok (.aload_n 0, 1) := by decide +kernel
theorem dX12_init_53 : decode cX12_init 53 = .ok (.bipush 60, 2) := by decide +kernel
theorem dX12_init_55 : decode cX12_init 55 = .ok (.newarray .int, 2) := by decide +kernel
theorem dX12_init_57 : decode cX12_init 57 = .ok (.putfield 28, 3) := by decide +kernel
theorem dX12_init_60 : decode cX12_init 60 = .ok (.aload_n 0, 1) := by decide +kernel
theorem dX12_init_61 : decode cX12_init 61 = .ok (.bipush 6, 2) := by decide +kernel
theorem dX12_init_63 : decode cX12_init 63 = .ok (.newarray .int, 2) := by decide +kernel
theorem dX12_init_65 : decode cX12_init 65 = .ok (.putfield 31, 3) := by decide +kernel
theorem dX12_init_68 : decode cX12_init 68 = .ok (.aload_n 0, 1) := by decide +kernel
theorem dX12_init_69 : decode cX12_init 69 = .ok (.sipush 1440, 3) := by decide +kernel
theorem dX12_init_72 : decode cX12_init 72 = .ok (.newarray .int, 2) := by decide +kernel
theorem dX12_init_74 : decode cX12_init 74 = .ok (.putfield 34, 3) := by decide +kernel
theorem dX12_init_77 : decode cX12_init 77 = .ok (.aload_n 0, 1) := by decide +kernel
theorem dX12_init_78 : decode cX12_init 78 = .ok (.sipush 14880, 3) := by decide +kernel
theorem dX12_init_81 : decode cX12_init 81 = .ok (.newarray .int, 2) := by decide +kernel
theorem dX12_init_83 : decode cX12_init 83 = .ok (.putfield 37, 3) := by decide +kernel
theorem dX12_init_86 : decode cX12_init 86 = .ok (.aload_n 0, 1) := by decide +kernel
theorem dX12_init_87 : decode cX12_init 87 = .ok (.sipush 216, 3) := by decide +kernel
theorem dX12_init_90 : decode cX12_init 90 = .ok (.newarray .int, 2) := by decide +kernel
theorem dX12_init_92 : decode cX12_init 92 = .ok (.putfield 40, 3) := by decide +kernel
theorem dX12_init_95 : decode cX12_init 95 = .ok (.aload_n 0, 1) := by decide +kernel
theorem dX12_init_96 : decode cX12_init 96 = .ok (.bipush 8, 2) := by decide +kernel
theorem dX12_init_98 : decode cX12_init 98 = .ok (.newarray .int, 2) := by decide +kernel
theorem dX12_init_100 : decode cX12_init 100 = .ok (.putfield 43, 3) := by decide +kernel
theorem dX12_init_103 : decode cX12_init 103 = .ok (.aload_n 0, 1) := by decide +kernel
theorem dX12_init_104 : decode cX12_init 104 = .ok (.sipush 384, 3) := by decide +kernel
theorem dX12_init_107 : decode cX12_init 107 = .ok (.newarray .int, 2) := by decide +kernel
theorem dX12_init_109 : decode cX12_init 109 = .ok (.putfield 46, 3) := by decide +kernel
theorem dX12_init_112 : decode cX12_init 112 = .ok (.aload_n 0, 1) := by decide +kernel
theorem dX12_init_113 : decode cX12_init 113 = .ok (.sipush 384, 3) := by decide +kernel
theorem dX12_init_116 : decode cX12_init 116 = .ok (.newarray .int, 2) := by decide +kernel
theorem dX12_init_118 : decode cX12_init 118 = .ok (.putfield 49, 3) := by decide +kernel
theorem dX12_init_121 : decode cX12_init 121 = .ok (.aload_n 0, 1) := by decide +kernel
theorem dX12_init_122 : decode cX12_init 122 = .ok (.sipush 384, 3) := by decide +kernel
theorem dX12_init_125 : decode cX12_init 125 = .ok (.newarray .int, 2) := by decide +kernel
theorem dX12_init_127 : decode cX12_init 127 = .ok (.putfield 52, 3) := by decide +kernel
theorem dX12_init_130 : decode cX12_init 130 = .ok (.aload_n 0, 1) := by decide +kernel
theorem dX12_init_131 : decode cX12_init 131 = .ok (.sipush 384, 3) := by decide +kernel
theorem dX12_init_134 : decode cX12_init 134 = .ok (.newarray .int, 2) := by decide +kernel
theorem dX12_init_136 : decode cX12_init 136 = .ok (.putfield 55, 3) := by decide +kernel
theorem dX12_init_139 : decode cX12_init 139 = .ok (.aload_n 0, 1) := by decide +kernel
theorem dX12_init_140 : decode cX12_init 140 = .ok (.sipush 384, 3) := by decide +kernel
theorem dX12_init_143 : decode cX12_init 143 = .ok (.newarray .int, 2) := by decide +kernel
theorem dX12_init_145 : decode cX12_init 145 = .ok (.putfield 58, 3) := by decide +kernel
theorem dX12_init_148 : decode cX12_init 148 = .ok (.aload_n 0, 1) := by decide +kernel
theorem dX12_init_149 : decode cX12_init 149 = .ok (.sipush 384, 3) := by decide +kernel
theorem dX12_init_152 : decode cX12_init 152 = .ok (.newarray .int, 2) := by decide +kernel
theorem dX12_init_154 : decode cX12_init 154 = .ok (.putfield 61, 3) := by decide +kernel
theorem dX12_init_157 : decode cX12_init 157 = .ok (.aload_n 0, 1) := by decide +kernel
theorem dX12_init_158 : decode cX12_init 158 = .ok (.sipush 384, 3) := by decide +kernel
theorem dX12_init_161 : decode cX12_init 161 = .ok (.newarray .int, 2) := by decide +kernel
theorem dX12_init_163 : decode cX12_init 163 = .ok (.putfield 64, 3) := by decide +kernel
theorem dX12_init_166 : decode cX12_init 166 = .ok (.aload_n 0, 1) := by decide +kernel
theorem dX12_init_167 : decode cX12_init 167 = .ok (.bipush 60, 2) := by decide +kernel
theorem dX12_init_169 : decode cX12_init 169 = .ok (.newarray .int, 2) := by decide +kernel
theorem dX12_init_171 : decode cX12_init 171 = .ok (.putfield 67, 3) := by decide +kernel
theorem dX12_init_174 : decode cX12_init 174 = .ok (.aload_n 0, 1) := by decide +kernel
theorem dX12_init_175 : decode cX12_init 175 = .ok (.bipush 60, 2) := by decide +kernel
theorem dX12_init_177 : decode cX12_init 177 = .ok (.newarray .int, 2) := by decide +kernel
theorem dX12_init_179 : decode cX12_init 179 = .ok (.putfield 70, 3) := by decide +kernel
theorem dX12_init_182 : decode cX12_init 182 = .ok (.aload_n 0, 1) := by decide +kernel
theorem dX12_init_183 : decode cX12_init 183 = .ok (.bipush 60, 2) := by decide +kernel
theorem dX12_init_185 : decode cX12_init 185 = .ok (.newarray .int, 2) := by decide +kernel
theorem dX12_init_187 : decode cX12_init 187 = .ok (.putfield 73, 3) := by decide +kernel
theorem dX12_init_190 : decode cX12_init 190 = .ok (.aload_n 0, 1) := by decide +kernel
theorem dX12_init_191 : decode cX12_init 191 = .ok (.bipush 60, 2) := by decide +kernel
theorem dX12_init_193 : decode cX12_init 193 = .ok (.newarray .int, 2) := by decide +kernel
theorem dX12_init_195 : decode cX12_init 195 = .ok (.putfield 76, 3) := by decide +kernel
theorem dX12_init_198 : decode cX12_init 198 = .ok (.aload_n 0, 1) := by decide +kernel
theorem dX12_init_199 : decode cX12_init 199 = .ok (.bipush 60, 2) := by decide +kernel
theorem dX12_init_201 : decode cX12_init 201 = .ok (.newarray .int, 2) := by decide +kernel
theorem dX12_init_203 : decode cX12_init 203 = .ok (.putfield 79, 3) := by decide +kernel
theorem dX12_init_206 : decode cX12_init 206 = .ok (.aload_n 0, 1) := by decide +kernel
theorem dX12_init_207 : decode cX12_init 207 = .ok (.bipush 60, 2) := by decide +kernel
theorem dX12_init_209 : decode cX12_init 209 = .ok (.newarray .int, 2) := by decide +kernel
theorem dX12_init_211 : decode cX12_init 211 = .ok (.putfield 82, 3) := by decide +kernel
theorem dX12_init_214 : decode cX12_init 214 = .ok (.aload_n 0, 1) := by decide +kernel
theorem dX12_init_215 : decode cX12_init 215 = .ok (.bipush 60, 2) := by decide +kernel
theorem dX12_init_217 : decode cX12_init 217 = .ok (.newarray .int, 2) := by decide +kernel
theorem dX12_init_219 : decode cX12_init 219 = .ok (.putfield 85, 3) := by decide +kernel
theorem dX12_init_222 : decode cX12_init 222 = .ok (.aload_n 0, 1) := by decide +kernel
theorem dX12_init_223 : decode cX12_init 223 = .ok (.bipush 60, 2) := by decide +kernel
theorem dX12_init_225 : decode cX12_init 225 = .ok (.newarray .int, 2) := by decide +kernel
theorem dX12_init_227 : decode cX12_init 227 = .ok (.putfield 88, 3) := by decide +kernel
theorem dX12_init_230 : decode cX12_init 230 = .ok (.aload_n 0, 1) := by decide +kernel
theorem dX12_init_231 : decode cX12_init 231 = .ok (.bipush 60, 2) := by decide +kernel
theorem dX12_init_233 : decode cX12_init 233 = .ok (.newarray .int, 2) := by decide +kernel
theorem dX12_init_235 : decode cX12_init 235 = .ok (.putfield 91, 3) := by decide +kernel
theorem dX12_init_238 : decode cX12_init 238 = .ok (.aload_n 0, 1) := by decide +kernel
theorem dX12_init_239 : decode cX12_init 239 = .ok (.sipush 240, 3) := by decide +kernel
theorem dX12_init_242 : decode cX12_init 242 = .ok (.newarray .int, 2) := by decide +kernel
theorem dX12_init_244 : decode cX12_init 244 = .ok (.putfield 94, 3) := by decide +kernel
theorem dX12_init_247 : decode cX12_init 247 = .ok (.aload_n 0, 1) := by decide +kernel
theorem dX12_init_248 : decode cX12_init 248 = .ok (.sipush 240, 3) := by decide +kernel
theorem dX12_init_251 : decode cX12_init 251 = .ok (.newarray .int, 2) := by decide +kernel
theorem dX12_init_253 : decode cX12_init 253 = .ok (.putfield 97, 3) := by decide +kernel
theorem dX12_init_256 : decode cX12_init 256 = .ok (.aload_n 0, 1) := by decide +kernel
theorem dX12_init_257 : decode cX12_init 257 = .ok (.bipush 60, 2) := by decide +kernel
theorem dX12_init_259 : decode cX12_init 259 = .ok (.newarray .int, 2) := by decide +kernel
theorem dX12_init_261 : decode cX12_init 261 = .ok (.putfield 100, 3) := by decide +kernel
theorem dX12_init_264 : decode cX12_init 264 = .ok (.aload_n 0, 1) := by decide +kernel
theorem dX12_init_265 : decode cX12_init 265 = .ok (.bipush 60, 2) := by decide +kernel
theorem dX12_init_267 : decode cX12_init 267 = .ok (.newarray .int, 2) := by decide +kernel
theorem dX12_init_269 : decode cX12_init 269 = .ok (.putfield 103, 3) := by decide +kernel
theorem dX12_init_272 : decode cX12_init 272 = .ok (.aload_n 0, 1) := by decide +kernel
theorem dX12_init_273 : decode cX12_init 273 = .ok (.sipush 384, 3) := by decide +kernel
theorem dX12_init_276 : decode cX12_init 276 = .ok (.newarray .boolean, 2) := by decide +kernel
theorem dX12_init_278 : decode cX12_init 278 = .ok (.putfield 106, 3) := by decide +kernel
