theorem dX12_sort_58 : decode cX12_sort 58 = .ok (.ifCond .eq 51, 3) := by decide +kernel
theorem dX12_sort_61 : decode cX12_sort 61 = .ok (.aload_n 0, 1) := by decide +kernel
theorem dX12_sort_62 : decode cX12_sort 62 = .ok (.iload 6, 2) := by decide +kernel
theorem dX12_sort_64 : decode cX12_sort 64 = .ok (.aload_n 0, 1) := by decide +kernel
theorem dX12_sort_65 : decode cX12_sort 65 = .ok (.getfield 19, 3) := by decide +kernel
theorem dX12_sort_68 : decode cX12_sort 68 = .ok (.iload 6, 2) := by decide +kernel
theorem dX12_sort_70 : decode cX12_sort 70 = .ok (.iconst 1, 1) := by decide +kernel
theorem dX12_sort_71 : decode cX12_sort 71 = .ok (.isub, 1) := by decide +kernel
theorem dX12_sort_72 : decode cX12_sort 72 = .ok (.iaload, 1) := by decide +kernel
theorem dX12_sort_73 : decode cX12_sort 73 = .ok (.aload_n 0, 1) := by decide +kernel
theorem dX12_sort_74 : decode cX12_sort 74 = .ok (.getfield 22, 3) := by decide +kernel
theorem dX12_sort_77 : decode cX12_sort 77 = .ok (.iload 6, 2) := by decide +kernel
theorem dX12_sort_79 : decode cX12_sort 79 = .ok (.iconst 1, 1) := by decide +kernel
theorem dX12_sort_80 : decode cX12_sort 80 = .ok (.isub, 1) := by decide +kernel
theorem dX12_sort_81 : decode cX12_sort 81 = .ok (.iaload, 1) := by decide +kernel
theorem dX12_sort_82 : decode cX12_sort 82 = .ok (.aload_n 0, 1) := by decide +kernel
theorem dX12_sort_83 : decode cX12_sort 83 = .ok (.getfield 25, 3) := by decide +kernel
theorem dX12_sort_86 : decode cX12_sort 86 = .ok (.iload 6, 2) := by decide +kernel
theorem dX12_sort_88 : decode cX12_sort 88 = .ok (.iconst 1, 1) := by decide +kernel
theorem dX12_sort_89 : decode cX12_sort 89 = .ok (.isub, 1) := by decide +kernel
theorem dX12_sort_90 : decode cX12_sort 90 = .ok (.iaload, 1) := by decide +kernel
theorem dX12_sort_91 : decode cX12_sort 91 = .ok (.aload_n 0, 1) := by decide +kernel
theorem dX12_sort_92 : decode cX12_sort 92 = .ok (.getfield 28, 3) := by decide +kernel
theorem dX12_sort_95 : decode cX12_sort 95 = .ok (.iload 6, 2) := by decide +kernel
theorem dX12_sort_97 : decode cX12_sort 97 = .ok (.iconst 1, 1) := by decide +kernel
theorem dX12_sort_98 : decode cX12_sort 98 = .ok (.isub, 1) := by decide +kernel
theorem dX12_sort_99 : decode cX12_sort 99 = .ok (.iaload, 1) := by decide +kernel
theorem dX12_sort_100 : decode cX12_sort 100 = .ok (.invokevirtual 251, 3) := by decide +kernel
theorem dX12_sort_103 : decode cX12_sort 103 = .ok (.iinc 6 (-1), 3) := by decide +kernel
theorem dX12_sort_106 : decode cX12_sort 106 = .ok (.goto (-63), 3) := by decide +kernel
theorem dX12_sort_109 : decode cX12_sort 109 = .ok (.aload_n 0, 1) := by decide +kernel
theorem dX12_sort_110 : decode cX12_sort 110 = .ok (.iload 6, 2) := by decide +kernel
theorem dX12_sort_112 : decode cX12_sort 112 = .ok (.iload_n 2, 1) := by decide +kernel
theorem dX12_sort_113 : decode cX12_sort 113 = .ok (.iload_n 3, 1) := by decide +kernel
theorem dX12_sort_114 : decode cX12_sort 114 = .ok (.iload 4, 2) := by decide +kernel
theorem dX12_sort_116 : decode cX12_sort 116 = .ok (.iload 5, 2) := by decide +kernel
theorem dX12_sort_118 : decode cX12_sort 118 = .ok (.invokevirtual 251, 3) := by decide +kernel
theorem dX12_sort_121 : decode cX12_sort 121 = .ok (.iinc 1 1, 3) := by decide +kernel
theorem dX12_sort_124 : decode cX12_sort 124 = .ok (.goto (-122), 3) := by decide +kernel
theorem dX12_sort_127 : decode cX12_sort 127 = .ok (.return_, 1) := by decide +kernel
theorem dX12_creases_0 : decode cX12_creases 0 = .ok (.iconst 0, 1) := by decide +kernel
theorem dX12_creases_1 : decode cX12_creases 1 = .ok (.istore_n 1, 1) := by decide +kernel
theorem dX12_creases_2 : decode cX12_creases 2 = .ok (.iconst 0, 1) := by decide +kernel
theorem dX12_creases_3 : decode cX12_creases 3 = .ok (.istore_n 2, 1) := by decide +kernel
theorem dX12_creases_4 : decode cX12_creases 4 = .ok (.iload_n 2, 1) := by decide +kernel
theorem dX12_creases_5 : decode cX12_creases 5 = .ok (.aload_n 0, 1) := by decide +kernel
theorem dX12_creases_6 : decode cX12_creases 6 = .ok (.getfield 127, 3) := by decide +kernel
theorem dX12_creases_9 : decode cX12_creases 9 = .ok (.if_icmp .ge 41, 3) := by decide +kernel
theorem dX12_creases_12 : decode cX12_creases 12 = .ok (.iload_n 1, 1) := by decide +kernel
theorem dX12_creases_13 : decode cX12_creases 13 = .ok (.aload_n 0, 1) := by decide +kernel
theorem dX12_creases_14 : decode cX12_creases 14 = .ok (.getfield 25, 3) := by decide +kernel
theorem dX12_creases_17 : decode cX12_creases 17 = .ok (.iload_n 2, 1) := by decide +kernel
theorem dX12_creases_18 : decode cX12_creases 18 = .ok (.iaload, 1) := by decide +kernel
theorem dX12_creases_19 : decode cX12_creases 19 = .ok (.ifCond .eq 7, 3) := by decide +kernel
theorem dX12_creases_22 : decode cX12_creases 22 = .ok (.iconst 1, 1) := by decide +kernel
theorem dX12_creases_23 : decode cX12_creases 23 = .ok (.goto 4, 3) := by decide +kernel
theorem dX12_creases_26 : decode cX12_creases 26 = .ok (.iconst 0, 1) := by decide +kernel
theorem dX12_creases_27 : decode cX12_creases 27 = .ok (.aload_n 0, 1) := by decide +kernel
theorem dX12_creases_28 : decode cX12_creases 28 = .ok (.getfield 28, 3) := by decide +kernel
theorem dX12_creases_31 : decode cX12_creases 31 = .ok (.iload_n 2, 1) := by decide +kernel
theorem dX12_creases_32 : decode cX12_creases 32 = .ok (.iaload, 1) := by decide +kernel
theorem dX12_creases_33 : decode cX12_creases 33 = .ok (.ifCond .eq 7, 3) := by decide +kernel
theorem dX12_creases_36 : decode cX12_creases 36 = .ok (.iconst 1, 1) := by decide +kernel
theorem dX12_creases_37 : decode cX12_creases 37 = .ok (.goto 4, 3) := by decide +kernel
theorem dX12_creases_40 : decode cX12_creases 40 = .ok (.iconst 0, 1) := by decide +kernel
theorem dX12_creases_41 : decode cX12_creases 41 = .ok (.iadd, 1) := by decide +kernel
theorem dX12_creases_42 : decode cX12_creases 42 = .ok (.iadd, 1) := by decide +kernel
theorem dX12_creases_43 : decode cX12_creases 43 = .ok (.istore_n 1, 1) := by decide +kernel
theorem dX12_creases_44 : decode cX12_creases 44 = .ok (.iinc 2 1, 3) := by decide +kernel
theorem dX12_creases_47 : decode cX12_creases 47 = .ok (.goto (-43), 3) := by decide +kernel
theorem dX12_creases_50 : decode cX12_creases 50 = .ok (.iload_n 1, 1) := by decide +kernel
theorem dX12_creases_51 : decode cX12_creases 51 = .ok (.ireturn, 1) := by decide +kernel
theorem dX12_spotAt_0 : decode cX12_spotAt 0 = .ok (.iconst 0, 1) := by decide +kernel
theorem dX12_spotAt_1 : decode cX12_spotAt 1 = .ok (.istore_n 3, 1) := by decide +kernel
theorem dX12_spotAt_2 : decode cX12_spotAt 2 = .ok (.iload_n 3, 1) := by decide +kernel
theorem dX12_spotAt_3 : decode cX12_spotAt 3 = .ok (.aload_n 0, 1) := by decide +kernel
theorem dX12_spotAt_4 : decode cX12_spotAt 4 = .ok (.getfield 127, 3) := by decide +kernel
theorem dX12_spotAt_7 : decode cX12_spotAt 7 = .ok (.if_icmp .ge 31, 3) := by decide +kernel
theorem dX12_spotAt_10 : decode cX12_spotAt 10 = .ok (.aload_n 0, 1) := by decide +kernel
theorem dX12_spotAt_11 : decode cX12_spotAt 11 = .ok (.getfield 19, 3) := by decide +kernel
theorem dX12_spotAt_14 : decode cX12_spotAt 14 = .ok (.iload_n 3, 1) := by decide +kernel
theorem dX12_spotAt_15 : decode cX12_spotAt 15 = .ok (.iaload, 1) := by decide +kernel
theorem dX12_spotAt_16 : decode cX12_spotAt 16 = .ok (.iload_n 1, 1) := by decide +kernel
theorem dX12_spotAt_17 : decode cX12_spotAt 17 = .ok (.if_icmp .ne 15, 3) := by decide +kernel
theorem dX12_spotAt_20 : decode cX12_spotAt 20 = .ok (.aload_n 0, 1) := by decide +kernel
theorem dX12_spotAt_21 : decode cX12_spotAt 21 = .ok (.getfield 22, 3) := by decide +kernel
theorem dX12_spotAt_24 : decode cX12_spotAt 24 = .ok (.iload_n 3, 1) := by decide +kernel
theorem dX12_spotAt_25 : decode cX12_spotAt 25 = .ok (.iaload, 1) := by decide +kernel
theorem dX12_spotAt_26 : decode cX12_spotAt 26 = .ok (.iload_n 2, 1) := by decide +kernel
theorem dX12_spotAt_27 : decode cX12_spotAt 27 = .ok (.if_icmp .ne 5, 3) := by decide +kernel
theorem dX12_spotAt_30 : decode cX12_spotAt 30 = .ok (.iload_n 3, 1) := by decide +kernel
theorem dX12_spotAt_31 : decode cX12_spotAt 31 = .ok (.ireturn, 1) := by decide +kernel
theorem dX12_spotAt_32 : decode cX12_spotAt 32 = .ok (.iinc 3 1, 3) := by decide +kernel
theorem dX12_spotAt_35 : decode cX12_spotAt 35 = .ok (.goto (-33), 3) := by decide +kernel
theorem dX12_spotAt_38 : decode cX12_spotAt 38 = .ok (.iconst (-1), 1) := by decide +kernel
theorem dX12_spotAt_39 : decode cX12_spotAt 39 = .ok (.ireturn, 1) := by decide +kernel
theorem dX12_neighbour_0 : decode cX12_neighbour 0 = .ok (.aload_n 0, 1) := by decide +kernel
theorem dX12_neighbour_1 : decode cX12_neighbour 1 = .ok (.aload_n 0, 1) := by decide +kernel
theorem dX12_neighbour_2 : decode cX12_neighbour 2 = .ok (.getfield 19, 3) := by decide +kernel
theorem dX12_neighbour_5 : decode cX12_neighbour 5 = .ok (.iload_n 1, 1) := by decide +kernel
theorem dX12_neighbour_6 : decode cX12_neighbour 6 = .ok (.iaload, 1) := by decide +kernel
theorem dX12_neighbour_7 : decode cX12_neighbour 7 = .ok (.iload_n 2, 1) := by decide +kernel
theorem dX12_neighbour_8 : decode cX12_neighbour 8 = .ok (.invokestatic 230, 3) := by decide +kernel
theorem dX12_neighbour_11 : decode cX12_neighbour 11 = .ok (.iadd, 1) := by decide +kernel
theorem dX12_neighbour_12 : decode cX12_neighbour 12 = .ok (.aload_n 0, 1) := by decide +kernel
theorem dX12_neighbour_13 : decode cX12_neighbour 13 = .ok (.getfield 22, 3) := by decide +kernel
theorem dX12_neighbour_16 : decode cX12_neighbour 16 = .ok (.iload_n 1, 1) := by decide +kernel
theorem dX12_neighbour_17 : decode cX12_neighbour 17 = .ok (.iaload, 1) := by decide +kernel
theorem dX12_neighbour_18 : decode cX12_neighbour 18 = .ok (.iload_n 2, 1) := by decide +kernel
theorem dX12_neighbour_19 : decode cX12_neighbour 19 = .ok (.invokestatic 233, 3) := by decide +kernel
theorem dX12_neighbour_22 : decode cX12_neighbour 22 = .ok (.iadd, 1) := by decide +kernel
theorem dX12_neighbour_23 : decode cX12_neighbour 23 = .ok (.invokevirtual 255, 3) := by decide +kernel
theorem dX12_neighbour_26 : decode cX12_neighbour 26 = .ok (.ireturn, 1) := by decide +kernel
theorem dX12_creaseOf_0 : decode cX12_creaseOf 0 = .ok (.iload_n 2, 1) := by decide +kernel
theorem dX12_creaseOf_1 : decode cX12_creaseOf 1 = .ok (.iconst 2, 1) := by decide +kernel
theorem dX12_creaseOf_2 : decode cX12_creaseOf 2 = .ok (.if_icmp .ge 23, 3) := by decide +kernel
theorem dX12_creaseOf_5 : decode cX12_creaseOf 5 = .ok (.iload_n 2, 1) := by decide +kernel
theorem dX12_creaseOf_6 : decode cX12_creaseOf 6 = .ok (.ifCond .ne 12, 3) := by decide +kernel
theorem dX12_creaseOf_9 : decode cX12_creaseOf 9 = .ok (.aload_n 0, 1) := by decide +kernel
theorem dX12_creaseOf_10 : decode cX12_creaseOf 10 = .ok (.getfield 25, 3) := by decide +kernel
theorem dX12_creaseOf_13 : decode cX12_creaseOf 13 = .ok (.iload_n 1, 1) := by decide +kernel
theorem dX12_creaseOf_14 : decode cX12_creaseOf 14 = .ok (.iaload, 1) := by decide +kernel
theorem dX12_creaseOf_15 : decode cX12_creaseOf 15 = .ok (.goto 9, 3) := by decide +kernel
theorem dX12_creaseOf_18 : decode cX12_creaseOf 18 = .ok (.aload_n 0, 1) := by decide +kernel
theorem dX12_creaseOf_19 : decode cX12_creaseOf 19 = .ok (.getfield 28, 3) := by decide +kernel
theorem dX12_creaseOf_22 : decode cX12_creaseOf 22 = .ok (.iload_n 1, 1) := by decide +kernel
theorem dX12_creaseOf_23 : decode cX12_creaseOf 23 = .ok (.iaload, 1) := by decide +kernel
theorem dX12_creaseOf_24 : decode cX12_creaseOf 24 = .ok (.ireturn, 1) := by decide +kernel
theorem dX12_creaseOf_25 : decode cX12_creaseOf 25 = .ok (.aload_n 0, 1) := by decide +kernel
theorem dX12_creaseOf_26 : decode cX12_creaseOf 26 = .ok (.iload_n 1, 1) := by decide +kernel
theorem dX12_creaseOf_27 : decode cX12_creaseOf 27 = .ok (.iload_n 2, 1) := by decide +kernel
theorem dX12_creaseOf_28 : decode cX12_creaseOf 28 = .ok (.invokevirtual 258, 3) := by decide +kernel
theorem dX12_creaseOf_31 : decode cX12_creaseOf 31 = .ok (.istore_n 3, 1) := by decide +kernel
theorem dX12_creaseOf_32 : decode cX12_creaseOf 32 = .ok (.iload_n 3, 1) := by decide +kernel
theorem dX12_creaseOf_33 : decode cX12_creaseOf 33 = .ok (.iconst (-1), 1) := by decide +kernel
theorem dX12_creaseOf_34 : decode cX12_creaseOf 34 = .ok (.if_icmp .ne 7, 3) := by decide +kernel
theorem dX12_creaseOf_37 : decode cX12_creaseOf 37 = .ok (.iconst 0, 1) := by decide +kernel
theorem dX12_creaseOf_38 : decode cX12_creaseOf 38 = .ok (.goto 23, 3) := by decide +kernel
theorem dX12_creaseOf_41 : decode cX12_creaseOf 41 = .ok (.iload_n 2, 1) := by decide +kernel
theorem dX12_creaseOf_42 : decode cX12_creaseOf 42 = .ok (.iconst 2, 1) := by decide +kernel
theorem dX12_creaseOf_43 : decode cX12_creaseOf 43 = .ok (.if_icmp .ne 12, 3) := by decide +kernel
theorem dX12_creaseOf_46 : decode cX12_creaseOf 46 = .ok (.aload_n 0, 1) := by decide +kernel
theorem dX12_creaseOf_47 : decode cX12_creaseOf 47 = .ok (.getfield 25, 3) := by decide +kernel
theorem dX12_creaseOf_50 : decode cX12_creaseOf 50 = .ok (.iload_n 3, 1) := by decide +kernel
theorem dX12_creaseOf_51 : decode cX12_creaseOf 51 = .ok (.iaload, 1) := by decide +kernel
theorem dX12_creaseOf_52 : decode cX12_creaseOf 52 = .ok (.goto 9, 3) := by decide +kernel
theorem dX12_creaseOf_55 : decode cX12_creaseOf 55 = .ok (.aload_n 0, 1) := by decide +kernel
theorem dX12_creaseOf_56 : decode cX12_creaseOf 56 = .ok (.getfield 28, 3) := by decide +kernel
theorem dX12_creaseOf_59 : decode cX12_creaseOf 59 = .ok (.iload_n 3, 1) := by decide +kernel
theorem dX12_creaseOf_60 : decode cX12_creaseOf 60 = .ok (.iaload, 1) := by decide +kernel
theorem dX12_creaseOf_61 : decode cX12_creaseOf 61 = .ok (.ireturn, 1) := by decide +kernel
theorem dX12_setCrease_0 : decode cX12_setCrease 0 = .ok (.iload_n 2, 1) := by decide +kernel
theorem dX12_setCrease_1 : decode cX12_setCrease 1 = .ok (.iconst 2, 1) := by decide +kernel
theorem dX12_setCrease_2 : decode cX12_setCrease 2 = .ok (.if_icmp .ge 7, 3) := by decide +kernel
theorem dX12_setCrease_5 : decode cX12_setCrease 5 = .ok (.iload_n 1, 1) := by decide +kernel
theorem dX12_setCrease_6 : decode cX12_setCrease 6 = .ok (.goto 9, 3) := by decide +kernel
theorem dX12_setCrease_9 : decode cX12_setCrease 9 = .ok (.aload_n 0, 1) := by decide +kernel
theorem dX12_setCrease_10 : decode cX12_setCrease 10 = .ok (.iload_n 1, 1) := by decide +kernel
theorem dX12_setCrease_11 : decode cX12_setCrease 11 = .ok (.iload_n 2, 1) := by decide +kernel
theorem dX12_setCrease_12 : decode cX12_setCrease 12 = .ok (.invokevirtual 258, 3) := by decide +kernel
theorem dX12_setCrease_15 : decode cX12_setCrease 15 = .ok (.istore 4, 2) := by decide +kernel
theorem dX12_setCrease_17 : decode cX12_setCrease 17 = .ok (.iload 4, 2) := by decide +kernel
theorem dX12_setCrease_19 : decode cX12_setCrease 19 = .ok (.iconst (-1), 1) := by decide +kernel
theorem dX12_setCrease_20 : decode cX12_setCrease 20 = .ok (.if_icmp .eq 17, 3) := by decide +kernel
theorem dX12_setCrease_23 : decode cX12_setCrease 23 = .ok (.iload_n 2, 1) := by decide +kernel
theorem dX12_setCrease_24 : decode cX12_setCrease 24 = .ok (.iconst 2, 1) := by decide +kernel
theorem dX12_setCrease_25 : decode cX12_setCrease 25 = .ok (.irem, 1) := by decide +kernel
theorem dX12_setCrease_26 : decode cX12_setCrease 26 = .ok (.ifCond .ne 11, 3) := by decide +kernel
theorem dX12_setCrease_29 : decode cX12_setCrease 29 = .ok (.aload_n 0, 1) := by decide +kernel
theorem dX12_setCrease_30 : decode cX12_setCrease 30 = .ok (.getfield 25, 3) := by decide +kernel
theorem dX12_setCrease_33 : decode cX12_setCrease 33 = .ok (.iload 4, 2) := by decide +kernel
theorem dX12_setCrease_35 : decode cX12_setCrease 35 = .ok (.iload_n 3, 1) := by decide +kernel
theorem dX12_setCrease_36 : decode cX12_setCrease 36 = .ok (.iastore, 1) := by decide +kernel
theorem dX12_setCrease_37 : decode cX12_setCrease 37 = .ok (.iload 4, 2) := by decide +kernel
theorem dX12_setCrease_39 : decode cX12_setCrease 39 = .ok (.iconst (-1), 1) := by decide +kernel
theorem dX12_setCrease_40 : decode cX12_setCrease 40 = .ok (.if_icmp .eq 18, 3) := by decide +kernel
theorem dX12_setCrease_43 : decode cX12_setCrease 43 = .ok (.iload_n 2, 1) := by decide +kernel
theorem dX12_setCrease_44 : decode cX12_setCrease 44 = .ok (.iconst 2, 1) := by decide +kernel
theorem dX12_setCrease_45 : decode cX12_setCrease 45 = .ok (.irem, 1) := by decide +kernel
theorem dX12_setCrease_46 : decode cX12_setCrease 46 = .ok (.iconst 1, 1) := by decide +kernel
theorem dX12_setCrease_47 : decode cX12_setCrease 47 = .ok (.if_icmp .ne 11, 3) := by decide +kernel
theorem dX12_setCrease_50 : decode cX12_setCrease 50 = .ok (.aload_n 0, 1) := by decide +kernel
theorem dX12_setCrease_51 : decode cX12_setCrease 51 = .ok (.getfield 28, 3) := by decide +kernel
theorem dX12_setCrease_54 : decode cX12_setCrease 54 = .ok (.iload 4, 2) := by decide +kernel
theorem dX12_setCrease_56 : decode cX12_setCrease 56 = .ok (.iload_n 3, 1) := by decide +kernel
theorem dX12_setCrease_57 : decode cX12_setCrease 57 = .ok (.iastore, 1) := by decide +kernel
theorem dX12_setCrease_58 : decode cX12_setCrease 58 = .ok (.return_, 1) := by decide +kernel
theorem dX12_isPlace_0 : decode cX12_isPlace 0 = .ok (.iload_n 0, 1) := by decide +kernel
theorem dX12_isPlace_1 : decode cX12_isPlace 1 = .ok (.bipush (-30), 2) := by decide +kernel
theorem dX12_isPlace_3 : decode cX12_isPlace 3 = .ok (.bipush 30, 2) := by decide +kernel
theorem dX12_isPlace_5 : decode cX12_isPlace 5 = .ok (.invokestatic 139, 3) := by decide +kernel
theorem dX12_isPlace_8 : decode cX12_isPlace 8 = .ok (.ifCond .eq 18, 3) := by decide +kernel
theorem dX12_isPlace_11 : decode cX12_isPlace 11 = .ok (.iload_n 1, 1) := by decide +kernel
theorem dX12_isPlace_12 : decode cX12_isPlace 12 = .ok (.bipush (-30), 2) := by decide +kernel
theorem dX12_isPlace_14 : decode cX12_isPlace 14 = .ok (.bipush 30, 2) := by decide +kernel
theorem dX12_isPlace_16 : decode cX12_isPlace 16 = .ok (.invokestatic 139, 3) := by decide +kernel
theorem dX12_isPlace_19 : decode cX12_isPlace 19 = .ok (.ifCond .eq 7, 3) := by decide +kernel
theorem dX12_isPlace_22 : decode cX12_isPlace 22 = .ok (.iconst 1, 1) := by decide +kernel
theorem dX12_isPlace_23 : decode cX12_isPlace 23 = .ok (.goto 4, 3) := by decide +kernel
theorem dX12_isPlace_26 : decode cX12_isPlace 26 = .ok (.iconst 0, 1) := by decide +kernel
theorem dX12_isPlace_27 : decode cX12_isPlace 27 = .ok (.ireturn, 1) := by decide +kernel
theorem dX12_spot_0 : decode cX12_spot 0 = .ok (.aload_n 0, 1) := by decide +kernel
theorem dX12_spot_1 : decode cX12_spot 1 = .ok (.iconst 0, 1) := by decide +kernel
theorem dX12_spot_2 : decode cX12_spot 2 = .ok (.putfield 113, 3) := by decide +kernel
theorem dX12_spot_5 : decode cX12_spot 5 = .ok (.iload_n 1, 1) := by decide +kernel
theorem dX12_spot_6 : decode cX12_spot 6 = .ok (.iload_n 2, 1) := by decide +kernel
theorem dX12_spot_7 : decode cX12_spot 7 = .ok (.invokestatic 261, 3) := by decide +kernel
theorem dX12_spot_10 : decode cX12_spot 10 = .ok (.ifCond .eq 12, 3) := by decide +kernel
theorem dX12_spot_13 : decode cX12_spot 13 = .ok (.iload_n 3, 1) := by decide +kernel
theorem dX12_spot_14 : decode cX12_spot 14 = .ok (.iconst 0, 1) := by decide +kernel
theorem dX12_spot_15 : decode cX12_spot 15 = .ok (.iconst 1, 1) := by decide +kernel
theorem dX12_spot_16 : decode cX12_spot 16 = .ok (.invokestatic 139, 3) := by decide +kernel
theorem dX12_spot_19 : decode cX12_spot 19 = .ok (.ifCond .ne 6, 3) := by decide +kernel
theorem dX12_spot_22 : decode cX12_spot 22 = .ok (.bipush (-3), 2) := by decide +kernel
theorem dX12_spot_24 : decode cX12_spot 24 = .ok (.ireturn, 1) := by decide +kernel
theorem dX12_spot_25 : decode cX12_spot 25 = .ok (.aload_n 0, 1) := by decide +kernel
theorem dX12_spot_26 : decode cX12_spot 26 = .ok (.iload_n 1, 1) := by decide +kernel
theorem dX12_spot_27 : decode cX12_spot 27 = .ok (.iload_n 2, 1) := by decide +kernel
theorem dX12_spot_28 : decode cX12_spot 28 = .ok (.invokevirtual 255, 3) := by decide +kernel
theorem dX12_spot_31 : decode cX12_spot 31 = .ok (.istore 4, 2) := by decide +kernel
theorem dX12_spot_33 : decode cX12_spot 33 = .ok (.iload 4, 2) := by decide +kernel
theorem dX12_spot_35 : decode cX12_spot 35 = .ok (.iconst (-1), 1) := by decide +kernel
theorem dX12_spot_36 : decode cX12_spot 36 = .ok (.if_icmp .ne 20, 3) := by decide +kernel
theorem dX12_spot_39 : decode cX12_spot 39 = .ok (.iload_n 3, 1) := by decide +kernel
theorem dX12_spot_40 : decode cX12_spot 40 = .ok (.iconst 1, 1) := by decide +kernel
theorem dX12_spot_41 : decode cX12_spot 41 = .ok (.if_icmp .ne 15, 3) := by decide +kernel
theorem dX12_spot_44 : decode cX12_spot 44 = .ok (.aload_n 0, 1) := by decide +kernel
theorem dX12_spot_45 : decode cX12_spot 45 = .ok (.getfield 127, 3) := by decide +kernel
theorem dX12_spot_48 : decode cX12_spot 48 = .ok (.bipush 60, 2) := by decide +kernel
theorem dX12_spot_50 : decode cX12_spot 50 = .ok (.if_icmp .ne 6, 3) := by decide +kernel
theorem dX12_spot_53 : decode cX12_spot 53 = .ok (.bipush (-5), 2) := by decide +kernel
theorem dX12_spot_55 : decode cX12_spot 55 = .ok (.ireturn, 1) := by decide +kernel
theorem dX12_spot_56 : decode cX12_spot 56 = .ok (.aload_n 0, 1) := by decide +kernel
theorem dX12_spot_57 : decode cX12_spot 57 = .ok (.invokevirtual 136, 3) := by decide +kernel
theorem dX12_spot_60 : decode cX12_spot 60 = .ok (.iload 4, 2) := by decide +kernel
theorem dX12_spot_62 : decode cX12_spot 62 = .ok (.iconst (-1), 1) := by decide +kernel
theorem dX12_spot_63 : decode cX12_spot 63 = .ok (.if_icmp .ne 34, 3) := by decide +kernel
theorem dX12_spot_66 : decode cX12_spot 66 = .ok (.iload_n 3, 1) := by decide +kernel
theorem dX12_spot_67 : decode cX12_spot 67 = .ok (.iconst 1, 1) := by decide +kernel
theorem dX12_spot_68 : decode cX12_spot 68 = .ok (.if_icmp .ne 29, 3) := by decide +kernel
theorem dX12_spot_71 : decode cX12_spot 71 = .ok (.aload_n 0, 1) := by decide +kernel
theorem dX12_spot_72 : decode cX12_spot 72 = .ok (.aload_n 0, 1) := by decide +kernel
theorem dX12_spot_73 : decode cX12_spot 73 = .ok (.getfield 127, 3) := by decide +kernel
theorem dX12_spot_76 : decode cX12_spot 76 = .ok (.iload_n 1, 1) := by decide +kernel
theorem dX12_spot_77 : decode cX12_spot 77 = .ok (.iload_n 2, 1) := by decide +kernel
theorem dX12_spot_78 : decode cX12_spot 78 = .ok (.iconst 0, 1) := by decide +kernel
theorem dX12_spot_79 : decode cX12_spot 79 = .ok (.iconst 0, 1) := by decide +kernel
theorem dX12_spot_80 : decode cX12_spot 80 = .ok (.invokevirtual 251, 3) := by decide +kernel
theorem dX12_spot_83 : decode cX12_spot 83 = .ok (.aload_n 0, 1) := by decide +kernel
theorem dX12_spot_84 : decode cX12_spot 84 = .ok (.dup, 1) := by decide +kernel
theorem dX12_spot_85 : decode cX12_spot 85 = .ok (.getfield 127, 3) := by decide +kernel
theorem dX12_spot_88 : decode cX12_spot 88 = .ok (.iconst 1, 1) := by decide +kernel
theorem dX12_spot_89 : decode cX12_spot 89 = .ok (.iadd, 1) := by decide +kernel
theorem dX12_spot_90 : decode cX12_spot 90 = .ok (.putfield 127, 3) := by decide +kernel
theorem dX12_spot_93 : decode cX12_spot 93 = .ok (.aload_n 0, 1) := by decide +kernel
theorem dX12_spot_94 : decode cX12_spot 94 = .ok (.invokevirtual 242, 3) := by decide +kernel
theorem dX12_spot_97 : decode cX12_spot 97 = .ok (.iload 4, 2) := by decide +kernel
theorem dX12_spot_99 : decode cX12_spot 99 = .ok (.iconst (-1), 1) := by decide +kernel
theorem dX12_spot_100 : decode cX12_spot 100 = .ok (.if_icmp .eq 102, 3) := by decide +kernel
theorem dX12_spot_103 : decode cX12_spot 103 = .ok (.iload_n 3, 1) := by decide +kernel
theorem dX12_spot_104 : decode cX12_spot 104 = .ok (.ifCond .ne 98, 3) := by decide +kernel
theorem dX12_spot_107 : decode cX12_spot 107 = .ok (.iconst 0, 1) := by decide +kernel
theorem dX12_spot_108 : decode cX12_spot 108 = .ok (.istore 5, 2) := by decide +kernel
theorem dX12_spot_110 : decode cX12_spot 110 = .ok (.iload 5, 2) := by decide +kernel
theorem dX12_spot_112 : decode cX12_spot 112 = .ok (.iconst 4, 1) := by decide +kernel
theorem dX12_spot_113 : decode cX12_spot 113 = .ok (.if_icmp .ge 18, 3) := by decide +kernel
theorem dX12_spot_116 : decode cX12_spot 116 = .ok (.aload_n 0, 1) := by decide +kernel
theorem dX12_spot_117 : decode cX12_spot 117 = .ok (.iload 4, 2) := by decide +kernel
theorem dX12_spot_119 : decode cX12_spot 119 = .ok (.iload 5, 2) := by decide +kernel
theorem dX12_spot_121 : decode cX12_spot 121 = .ok (.iconst 0, 1) := by decide +kernel
theorem dX12_spot_122 : decode cX12_spot 122 = .ok (.invokevirtual 265, 3) := by decide +kernel
theorem dX12_spot_125 : decode cX12_spot 125 = .ok (.iinc 5 1, 3) := by decide +kernel
theorem dX12_spot_128 : decode cX12_spot 128 = .ok (.goto (-18), 3) := by decide +kernel
theorem dX12_spot_131 : decode cX12_spot 131 = .ok (.aload_n 0, 1) := by decide +kernel
theorem dX12_spot_132 : decode cX12_spot 132 = .ok (.dup, 1) := by decide +kernel
theorem dX12_spot_133 : decode cX12_spot 133 = .ok (.getfield 127, 3) := by decide +kernel
theorem dX12_spot_136 : decode cX12_spot 136 = .ok (.iconst 1, 1) := by decide +kernel
theorem dX12_spot_137 : decode cX12_spot 137 = .ok (.isub, 1) := by decide +kernel
theorem dX12_spot_138 : decode cX12_spot 138 = .ok (.putfield 127, 3) := by decide +kernel
theorem dX12_spot_141 : decode cX12_spot 141 = .ok (.iload 4, 2) := by decide +kernel
theorem dX12_spot_143 : decode cX12_spot 143 = .ok (.istore 5, 2) := by decide +kernel
theorem dX12_spot_145 : decode cX12_spot 145 = .ok (.iload 5, 2) := by decide +kernel
theorem dX12_spot_147 : decode cX12_spot 147 = .ok (.aload_n 0, 1) := by decide +kernel
theorem dX12_spot_148 : decode cX12_spot 148 = .ok (.getfield 127, 3) := by decide +kernel
theorem dX12_spot_151 : decode cX12_spot 151 = .ok (.if_icmp .ge 51, 3) := by decide +kernel
theorem dX12_spot_154 : decode cX12_spot 154 = .ok (.aload_n 0, 1) := by decide +kernel
theorem dX12_spot_155 : decode cX12_spot 155 = .ok (.iload 5, 2) := by decide +kernel
theorem dX12_spot_157 : decode cX12_spot 157 = .ok (.aload_n 0, 1) := by decide +kernel
theorem dX12_spot_158 : decode cX12_spot 158 = .ok (.getfield 19, 3) := by decide +kernel
theorem dX12_spot_161 : decode cX12_spot 161 = .ok (.iload 5, 2) := by decide +kernel
theorem dX12_spot_163 : decode cX12_spot 163 = .ok (.iconst 1, 1) := by decide +kernel
theorem dX12_spot_164 : decode cX12_spot 164 = .ok (.iadd, 1) := by decide +kernel
theorem dX12_spot_165 : decode cX12_spot 165 = .ok (.iaload, 1) := by decide +kernel
theorem dX12_spot_166 : decode cX12_spot 166 = .ok (.aload_n 0, 1) := by decide +kernel
theorem dX12_spot_167 : decode cX12_spot 167 = .ok (.getfield 22, 3) := by decide +kernel
theorem dX12_spot_170 : decode cX12_spot 170 = .ok (.iload 5, 2) := by decide +kernel
theorem dX12_spot_172 : decode cX12_spot 172 = .ok (.iconst 1, 1) := by decide +kernel
theorem dX12_spot_173 : decode cX12_spot 173 = .ok (.iadd, 1) := by decide +kernel
theorem dX12_spot_174 : decode cX12_spot 174 = .ok (.iaload, 1) := by decide +kernel
theorem dX12_spot_175 : decode cX12_spot 175 = .ok (.aload_n 0, 1) := by decide +kernel
theorem dX12_spot_176 : decode cX12_spot 176 = .ok (.getfield 25, 3) := by decide +kernel
theorem dX12_spot_179 : decode cX12_spot 179 = .ok (.iload 5, 2) := by decide +kernel
theorem dX12_spot_181 : decode cX12_spot 181 = .ok (.iconst 1, 1) := by decide +kernel
theorem dX12_spot_182 : decode cX12_spot 182 = .ok (.iadd, 1) := by decide +kernel
theorem dX12_spot_183 : decode cX12_spot 183 = .ok (.iaload, 1) := by decide +kernel
theorem dX12_spot_184 : decode cX12_spot 184 = .ok (.aload_n 0, 1) := by decide +kernel
theorem dX12_spot_185 : decode cX12_spot 185 = .ok (.getfield 28, 3) := by decide +kernel
theorem dX12_spot_188 : decode cX12_spot 188 = .ok (.iload 5, 2) := by decide +kernel
theorem dX12_spot_190 : decode cX12_spot 190 = .ok (.iconst 1, 1) := by decide +kernel
theorem dX12_spot_191 : decode cX12_spot 191 = .ok (.iadd, 1) := by decide +kernel
theorem dX12_spot_192 : decode cX12_spot 192 = .ok (.iaload, 1) := by decide +kernel
theorem dX12_spot_193 : decode cX12_spot 193 = .ok (.invokevirtual 251, 3) := by decide +kernel
theorem dX12_spot_196 : decode cX12_spot 196 = .ok (.iinc 5 1, 3) := by decide +kernel
theorem dX12_spot_199 : decode cX12_spot 199 = .ok (.goto (-54), 3) := by decide +kernel
theorem dX12_spot_202 : decode cX12_spot 202 = .ok (.iload 4, 2) := by decide +kernel
theorem dX12_spot_204 : decode cX12_spot 204 = .ok (.iconst (-1), 1) := by decide +kernel
theorem dX12_spot_205 : decode cX12_spot 205 = .ok (.if_icmp .ne 7, 3) := by decide +kernel
theorem dX12_spot_208 : decode cX12_spot 208 = .ok (.iconst 0, 1) := by decide +kernel
theorem dX12_spot_209 : decode cX12_spot 209 = .ok (.goto 4, 3) := by decide +kernel
theorem dX12_spot_212 : decode cX12_spot 212 = .ok (.iconst 1, 1) := by decide +kernel
theorem dX12_spot_213 : decode cX12_spot 213 = .ok (.ireturn, 1) := by decide +kernel
theorem dX12_toldOf_0 : decode cX12_toldOf 0 = .ok (.iload_n 0, 1) := by decide +kernel
theorem dX12_toldOf_1 : decode cX12_toldOf 1 = .ok (.ifCond .ne 7, 3) := by decide +kernel
theorem dX12_toldOf_4 : decode cX12_toldOf 4 = .ok (.iconst 5, 1) := by decide +kernel
theorem dX12_toldOf_5 : decode cX12_toldOf 5 = .ok (.goto 16, 3) := by decide +kernel
theorem dX12_toldOf_8 : decode cX12_toldOf 8 = .ok (.iload_n 0, 1) := by decide +kernel
theorem dX12_toldOf_9 : decode cX12_toldOf 9 = .ok (.iconst 1, 1) := by decide +kernel
theorem dX12_toldOf_10 : decode cX12_toldOf 10 = .ok (.if_icmp .ne 8, 3) := by decide +kernel
theorem dX12_toldOf_13 : decode cX12_toldOf 13 = .ok (.bipush 9, 2) := by decide +kernel
theorem dX12_toldOf_15 : decode cX12_toldOf 15 = .ok (.goto 6, 3) := by decide +kernel
theorem dX12_toldOf_18 : decode cX12_toldOf 18 = .ok (.iload_n 0, 1) := by decide +kernel
theorem dX12_toldOf_19 : decode cX12_toldOf 19 = .ok (.iconst 2, 1) := by decide +kernel
theorem dX12_toldOf_20 : decode cX12_toldOf 20 = .ok (.isub, 1) := by decide +kernel
theorem dX12_toldOf_21 : decode cX12_toldOf 21 = .ok (.ireturn, 1) := by decide +kernel
theorem dX12_crease_0 : decode cX12_crease 0 = .ok (.aload_n 0, 1) := by decide +kernel
theorem dX12_crease_1 : decode cX12_crease 1 = .ok (.iconst 0, 1) := by decide +kernel
theorem dX12_crease_2 : decode cX12_crease 2 = .ok (.putfield 113, 3) := by decide +kernel
theorem dX12_crease_5 : decode cX12_crease 5 = .ok (.iload_n 1, 1) := by decide +kernel
theorem dX12_crease_6 : decode cX12_crease 6 = .ok (.iload_n 2, 1) := by decide +kernel
theorem dX12_crease_7 : decode cX12_crease 7 = .ok (.invokestatic 261, 3) := by decide +kernel
theorem dX12_crease_10 : decode cX12_crease 10 = .ok (.ifCond .eq 36, 3) := by decide +kernel
theorem dX12_crease_13 : decode cX12_crease 13 = .ok (.iload_n 3, 1) := by decide +kernel
theorem dX12_crease_14 : decode cX12_crease 14 = .ok (.iconst 0, 1) := by decide +kernel
theorem dX12_crease_15 : decode cX12_crease 15 = .ok (.iconst 3, 1) := by decide +kernel
theorem dX12_crease_16 : decode cX12_crease 16 = .ok (.invokestatic 139, 3) := by decide +kernel
theorem dX12_crease_19 : decode cX12_crease 19 = .ok (.ifCond .eq 27, 3) := by decide +kernel
theorem dX12_crease_22 : decode cX12_crease 22 = .ok (.iload 4, 2) := by decide +kernel
theorem dX12_crease_24 : decode cX12_crease 24 = .ok (.ifCond .eq 25, 3) := by decide +kernel
theorem dX12_crease_27 : decode cX12_crease 27 = .ok (.iload 4, 2) := by decide +kernel
theorem dX12_crease_29 : decode cX12_crease 29 = .ok (.iconst 1, 1) := by decide +kernel
theorem dX12_crease_30 : decode cX12_crease 30 = .ok (.if_icmp .eq 19, 3) := by decide +kernel
theorem dX12_crease_33 : decode cX12_crease 33 = .ok (.iload 4, 2) := by decide +kernel
theorem dX12_crease_35 : decode cX12_crease 35 = .ok (.iconst 5, 1) := by decide +kernel
theorem dX12_crease_36 : decode cX12_crease 36 = .ok (.if_icmp .eq 13, 3) := by decide +kernel
theorem dX12_crease_39 : decode cX12_crease 39 = .ok (.iload 4, 2) := by decide +kernel
theorem dX12_crease_41 : decode cX12_crease 41 = .ok (.bipush 9, 2) := by decide +kernel
theorem dX12_crease_43 : decode cX12_crease 43 = .ok (.if_icmp .eq 6, 3) := by decide +kernel
theorem dX12_crease_46 : decode cX12_crease 46 = .ok (.bipush (-3), 2) := by decide +kernel
theorem dX12_crease_48 : decode cX12_crease 48 = .ok (.ireturn, 1) := by decide +kernel
theorem dX12_crease_49 : decode cX12_crease 49 = .ok (.aload_n 0, 1) := by decide +kernel
theorem dX12_crease_50 : decode cX12_crease 50 = .ok (.iload_n 1, 1) := by decide +kernel
theorem dX12_crease_51 : decode cX12_crease 51 = .ok (.iload_n 2, 1) := by decide +kernel
theorem dX12_crease_52 : decode cX12_crease 52 = .ok (.invokevirtual 255, 3) := by decide +kernel
theorem dX12_crease_55 : decode cX12_crease 55 = .ok (.istore 5, 2) := by decide +kernel
theorem dX12_crease_57 : decode cX12_crease 57 = .ok (.iload 5, 2) := by decide +kernel
theorem dX12_crease_59 : decode cX12_crease 59 = .ok (.iconst (-1), 1) := by decide +kernel
theorem dX12_crease_60 : decode cX12_crease 60 = .ok (.if_icmp .eq 14, 3) := by decide +kernel
theorem dX12_crease_63 : decode cX12_crease 63 = .ok (.aload_n 0, 1) := by decide +kernel
theorem dX12_crease_64 : decode cX12_crease 64 = .ok (.iload 5, 2) := by decide +kernel
theorem dX12_crease_66 : decode cX12_crease 66 = .ok (.iload_n 3, 1) := by decide +kernel
theorem dX12_crease_67 : decode cX12_crease 67 = .ok (.invokevirtual 258, 3) := by decide +kernel
theorem dX12_crease_70 : decode cX12_crease 70 = .ok (.iconst (-1), 1) := by decide +kernel
theorem dX12_crease_71 : decode cX12_crease 71 = .ok (.if_icmp .ne 6, 3) := by decide +kernel
theorem dX12_crease_74 : decode cX12_crease 74 = .ok (.bipush (-4), 2) := by decide +kernel
theorem dX12_crease_76 : decode cX12_crease 76 = .ok (.ireturn, 1) := by decide +kernel
theorem dX12_crease_77 : decode cX12_crease 77 = .ok (.aload_n 0, 1) := by decide +kernel
theorem dX12_crease_78 : decode cX12_crease 78 = .ok (.invokevirtual 136, 3) := by decide +kernel
theorem dX12_crease_81 : decode cX12_crease 81 = .ok (.aload_n 0, 1) := by decide +kernel
theorem dX12_crease_82 : decode cX12_crease 82 = .ok (.iload 5, 2) := by decide +kernel
theorem dX12_crease_84 : decode cX12_crease 84 = .ok (.iload_n 3, 1) := by decide +kernel
theorem dX12_crease_85 : decode cX12_crease 85 = .ok (.invokevirtual 269, 3) := by decide +kernel
theorem dX12_crease_88 : decode cX12_crease 88 = .ok (.invokestatic 272, 3) := by decide +kernel
theorem dX12_crease_91 : decode cX12_crease 91 = .ok (.istore 6, 2) := by decide +kernel
theorem dX12_crease_93 : decode cX12_crease 93 = .ok (.aload_n 0, 1) := by decide +kernel
theorem dX12_crease_94 : decode cX12_crease 94 = .ok (.iload 5, 2) := by decide +kernel
theorem dX12_crease_96 : decode cX12_crease 96 = .ok (.iload_n 3, 1) := by decide +kernel
theorem dX12_crease_97 : decode cX12_crease 97 = .ok (.iload 4, 2) := by decide +kernel
theorem dX12_crease_99 : decode cX12_crease 99 = .ok (.iconst 5, 1) := by decide +kernel
theorem dX12_crease_100 : decode cX12_crease 100 = .ok (.if_icmp .ne 7, 3) := by decide +kernel
theorem dX12_crease_103 : decode cX12_crease 103 = .ok (.iconst 0, 1) := by decide +kernel
theorem dX12_crease_104 : decode cX12_crease 104 = .ok (.goto 18, 3) := by decide +kernel
theorem dX12_crease_107 : decode cX12_crease 107 = .ok (.iload 4, 2) := by decide +kernel
theorem dX12_crease_109 : decode cX12_crease 109 = .ok (.bipush 9, 2) := by decide +kernel
theorem dX12_crease_111 : decode cX12_crease 111 = .ok (.if_icmp .ne 7, 3) := by decide +kernel
theorem dX12_crease_114 : decode cX12_crease 114 = .ok (.iconst 1, 1) := by decide +kernel
theorem dX12_crease_115 : decode cX12_crease 115 = .ok (.goto 7, 3) := by decide +kernel
theorem dX12_crease_118 : decode cX12_crease 118 = .ok (.iconst 2, 1) := by decide +kernel
theorem dX12_crease_119 : decode cX12_crease 119 = .ok (.iload 4, 2) := by decide +kernel
theorem dX12_crease_121 : decode cX12_crease 121 = .ok (.iadd, 1) := by decide +kernel
theorem dX12_crease_122 : decode cX12_crease 122 = .ok (.invokevirtual 265, 3) := by decide +kernel
theorem dX12_crease_125 : decode cX12_crease 125 = .ok (.iload 6, 2) := by decide +kernel
theorem dX12_crease_127 : decode cX12_crease 127 = .ok (.ireturn, 1) := by decide +kernel
theorem dX12_turned_0 : decode cX12_turned 0 = .ok (.iconst 0, 1) := by decide +kernel
theorem dX12_turned_1 : decode cX12_turned 1 = .ok (.istore_n 2, 1) := by decide +kernel
theorem dX12_turned_2 : decode cX12_turned 2 = .ok (.iload_n 2, 1) := by decide +kernel
theorem dX12_turned_3 : decode cX12_turned 3 = .ok (.aload_n 0, 1) := by decide +kernel
theorem dX12_turned_4 : decode cX12_turned 4 = .ok (.getfield 127, 3) := by decide +kernel
theorem dX12_turned_7 : decode cX12_turned 7 = .ok (.if_icmp .ge 59, 3) := by decide +kernel
theorem dX12_turned_10 : decode cX12_turned 10 = .ok (.aload_n 0, 1) := by decide +kernel
theorem dX12_turned_11 : decode cX12_turned 11 = .ok (.getfield 67, 3) := by decide +kernel
theorem dX12_turned_14 : decode cX12_turned 14 = .ok (.iload_n 2, 1) := by decide +kernel
theorem dX12_turned_15 : decode cX12_turned 15 = .ok (.iload_n 1, 1) := by decide +kernel
theorem dX12_turned_16 : decode cX12_turned 16 = .ok (.ifCond .ne 12, 3) := by decide +kernel
theorem dX12_turned_19 : decode cX12_turned 19 = .ok (.aload_n 0, 1) := by decide +kernel
theorem dX12_turned_20 : decode cX12_turned 20 = .ok (.iload_n 2, 1) := by decide +kernel
theorem dX12_turned_21 : decode cX12_turned 21 = .ok (.iconst 3, 1) := by decide +kernel
theorem dX12_turned_22 : decode cX12_turned 22 = .ok (.invokevirtual 269, 3) := by decide +kernel
theorem dX12_turned_25 : decode cX12_turned 25 = .ok (.goto 9, 3) := by decide +kernel
theorem dX12_turned_28 : decode cX12_turned 28 = .ok (.aload_n 0, 1) := by decide +kernel
theorem dX12_turned_29 : decode cX12_turned 29 = .ok (.iload_n 2, 1) := by decide +kernel
theorem dX12_turned_30 : decode cX12_turned 30 = .ok (.iconst 2, 1) := by decide +kernel
theorem dX12_turned_31 : decode cX12_turned 31 = .ok (.invokevirtual 269, 3) := by decide +kernel
theorem dX12_turned_34 : decode cX12_turned 34 = .ok (.iastore, 1) := by decide +kernel
theorem dX12_turned_35 : decode cX12_turned 35 = .ok (.aload_n 0, 1) := by decide +kernel
theorem dX12_turned_36 : decode cX12_turned 36 = .ok (.getfield 70, 3) := by decide +kernel
theorem dX12_turned_39 : decode cX12_turned 39 = .ok (.iload_n 2, 1) := by decide +kernel
theorem dX12_turned_40 : decode cX12_turned 40 = .ok (.iload_n 1, 1) := by decide +kernel
theorem dX12_turned_41 : decode cX12_turned 41 = .ok (.ifCond .ne 12, 3) := by decide +kernel
theorem dX12_turned_44 : decode cX12_turned 44 = .ok (.aload_n 0, 1) := by decide +kernel
theorem dX12_turned_45 : decode cX12_turned 45 = .ok (.iload_n 2, 1) := by decide +kernel
theorem dX12_turned_46 : decode cX12_turned 46 = .ok (.iconst 0, 1) := by decide +kernel
theorem dX12_turned_47 : decode cX12_turned 47 = .ok (.invokevirtual 269, 3) := by decide +kernel
theorem dX12_turned_50 : decode cX12_turned 50 = .ok (.goto 9, 3) := by decide +kernel
theorem dX12_turned_53 : decode cX12_turned 53 = .ok (.aload_n 0, 1) := by decide +kernel
theorem dX12_turned_54 : decode cX12_turned 54 = .ok (.getfield 28, 3) := by decide +kernel
theorem dX12_turned_57 : decode cX12_turned 57 = .ok (.iload_n 2, 1) := by decide +kernel
theorem dX12_turned_58 : decode cX12_turned 58 = .ok (.iaload, 1) := by decide +kernel
theorem dX12_turned_59 : decode cX12_turned 59 = .ok (.iastore, 1) := by decide +kernel
theorem dX12_turned_60 : decode cX12_turned 60 = .ok (.iinc 2 1, 3) := by decide +kernel
theorem dX12_turned_63 : decode cX12_turned 63 = .ok (.goto (-61), 3) := by decide +kernel
theorem dX12_turned_66 : decode cX12_turned 66 = .ok (.iconst 0, 1) := by decide +kernel
theorem dX12_turned_67 : decode cX12_turned 67 = .ok (.istore_n 2, 1) := by decide +kernel
theorem dX12_turned_68 : decode cX12_turned 68 = .ok (.iload_n 2, 1) := by decide +kernel
theorem dX12_turned_69 : decode cX12_turned 69 = .ok (.aload_n 0, 1) := by decide +kernel
theorem dX12_turned_70 : decode cX12_turned 70 = .ok (.getfield 127, 3) := by decide +kernel
theorem dX12_turned_73 : decode cX12_turned 73 = .ok (.if_icmp .ge 63, 3) := by decide +kernel
theorem dX12_turned_76 : decode cX12_turned 76 = .ok (.aload_n 0, 1) := by decide +kernel
theorem dX12_turned_77 : decode cX12_turned 77 = .ok (.getfield 19, 3) := by decide +kernel
theorem dX12_turned_80 : decode cX12_turned 80 = .ok (.iload_n 2, 1) := by decide +kernel
theorem dX12_turned_81 : decode cX12_turned 81 = .ok (.iaload, 1) := by decide +kernel
theorem dX12_turned_82 : decode cX12_turned 82 = .ok (.istore_n 3, 1) := by decide +kernel
theorem dX12_turned_83 : decode cX12_turned 83 = .ok (.aload_n 0, 1) := by decide +kernel
theorem dX12_turned_84 : decode cX12_turned 84 = .ok (.iload_n 2, 1) := by decide +kernel
theorem dX12_turned_85 : decode cX12_turned 85 = .ok (.iload_n 1, 1) := by decide +kernel
theorem dX12_turned_86 : decode cX12_turned 86 = .ok (.ifCond .ne 13, 3) := by decide +kernel
theorem dX12_turned_89 : decode cX12_turned 89 = .ok (.aload_n 0, 1) := by decide +kernel
theorem dX12_turned_90 : decode cX12_turned 90 = .ok (.getfield 22, 3) := by decide +kernel
theorem dX12_turned_93 : decode cX12_turned 93 = .ok (.iload_n 2, 1) := by decide +kernel
theorem dX12_turned_94 : decode cX12_turned 94 = .ok (.iaload, 1) := by decide +kernel
theorem dX12_turned_95 : decode cX12_turned 95 = .ok (.ineg, 1) := by decide +kernel
theorem dX12_turned_96 : decode cX12_turned 96 = .ok (.goto 5, 3) := by decide +kernel
theorem dX12_turned_99 : decode cX12_turned 99 = .ok (.iload_n 3, 1) := by decide +kernel
theorem dX12_turned_100 : decode cX12_turned 100 = .ok (.ineg, 1) := by decide +kernel
theorem dX12_turned_101 : decode cX12_turned 101 = .ok (.iload_n 1, 1) := by decide +kernel
theorem dX12_turned_102 : decode cX12_turned 102 = .ok (.ifCond .ne 7, 3) := by decide +kernel
theorem dX12_turned_105 : decode cX12_turned 105 = .ok (.iload_n 3, 1) := by decide +kernel
theorem dX12_turned_106 : decode cX12_turned 106 = .ok (.goto 9, 3) := by decide +kernel
theorem dX12_turned_109 : decode cX12_turned 109 = .ok (.aload_n 0, 1) := by decide +kernel
theorem dX12_turned_110 : decode cX12_turned 110 = .ok (.getfield 22, 3) := by decide +kernel
theorem dX12_turned_113 : decode cX12_turned 113 = .ok (.iload_n 2, 1) := by decide +kernel
theorem dX12_turned_114 : decode cX12_turned 114 = .ok (.iaload, 1) := by decide +kernel
theorem dX12_turned_115 : decode cX12_turned 115 = .ok (.aload_n 0, 1) := by decide +kernel
theorem dX12_turned_116 : decode cX12_turned 116 = .ok (.getfield 67, 3) := by decide +kernel
theorem dX12_turned_119 : decode cX12_turned 119 = .ok (.iload_n 2, 1) := by decide +kernel
theorem dX12_turned_120 : decode cX12_turned 120 = .ok (.iaload, 1) := by decide +kernel
theorem dX12_turned_121 : decode cX12_turned 121 = .ok (.aload_n 0, 1) := by decide +kernel
theorem dX12_turned_122 : decode cX12_turned 122 = .ok (.getfield 70, 3) := by decide +kernel
theorem dX12_turned_125 : decode cX12_turned 125 = .ok (.iload_n 2, 1) := by decide +kernel
theorem dX12_turned_126 : decode cX12_turned 126 = .ok (.iaload, 1) := by decide +kernel
theorem dX12_turned_127 : decode cX12_turned 127 = .ok (.invokevirtual 251, 3) := by decide +kernel
theorem dX12_turned_130 : decode cX12_turned 130 = .ok (.iinc 2 1, 3) := by decide +kernel
theorem dX12_turned_133 : decode cX12_turned 133 = .ok (.goto (-65), 3) := by decide +kernel
theorem dX12_turned_136 : decode cX12_turned 136 = .ok (.aload_n 0, 1) := by decide +kernel
theorem dX12_turned_137 : decode cX12_turned 137 = .ok (.invokevirtual 242, 3) := by decide +kernel
theorem dX12_turned_140 : decode cX12_turned 140 = .ok (.return_, 1) := by decide +kernel
theorem dX12_turn_0 : decode cX12_turn 0 = .ok (.aload_n 0, 1) := by decide +kernel
theorem dX12_turn_1 : decode cX12_turn 1 = .ok (.iconst 0, 1) := by decide +kernel
theorem dX12_turn_2 : decode cX12_turn 2 = .ok (.putfield 113, 3) := by decide +kernel
theorem dX12_turn_5 : decode cX12_turn 5 = .ok (.iload_n 1, 1) := by decide +kernel
theorem dX12_turn_6 : decode cX12_turn 6 = .ok (.iconst 0, 1) := by decide +kernel
theorem dX12_turn_7 : decode cX12_turn 7 = .ok (.iconst 1, 1) := by decide +kernel
theorem dX12_turn_8 : decode cX12_turn 8 = .ok (.invokestatic 139, 3) := by decide +kernel
theorem dX12_turn_11 : decode cX12_turn 11 = .ok (.ifCond .ne 6, 3) := by decide +kernel
theorem dX12_turn_14 : decode cX12_turn 14 = .ok (.bipush (-3), 2) := by decide +kernel
theorem dX12_turn_16 : decode cX12_turn 16 = .ok (.ireturn, 1) := by decide +kernel
theorem dX12_turn_17 : decode cX12_turn 17 = .ok (.aload_n 0, 1) := by decide +kernel
theorem dX12_turn_18 : decode cX12_turn 18 = .ok (.invokevirtual 136, 3) := by decide +kernel
theorem dX12_turn_21 : decode cX12_turn 21 = .ok (.aload_n 0, 1) := by decide +kernel
theorem dX12_turn_22 : decode cX12_turn 22 = .ok (.iload_n 1, 1) := by decide +kernel
theorem dX12_turn_23 : decode cX12_turn 23 = .ok (.invokevirtual 275, 3) := by decide +kernel
theorem dX12_turn_26 : decode cX12_turn 26 = .ok (.iconst 0, 1) := by decide +kernel
theorem dX12_turn_27 : decode cX12_turn 27 = .ok (.ireturn, 1) := by decide +kernel
theorem dX12_clear_0 : decode cX12_clear 0 = .ok (.aload_n 0, 1) := by decide +kernel
theorem dX12_clear_1 : decode cX12_clear 1 = .ok (.iconst 0, 1) := by decide +kernel
theorem dX12_clear_2 : decode cX12_clear 2 = .ok (.putfield 113, 3) := by decide +kernel
theorem dX12_clear_5 : decode cX12_clear 5 = .ok (.aload_n 0, 1) := by decide +kernel
theorem dX12_clear_6 : decode cX12_clear 6 = .ok (.invokevirtual 136, 3) := by decide +kernel
theorem dX12_clear_9 : decode cX12_clear 9 = .ok (.aload_n 0, 1) := by decide +kernel
theorem dX12_clear_10 : decode cX12_clear 10 = .ok (.getfield 127, 3) := by decide +kernel
theorem dX12_clear_13 : decode cX12_clear 13 = .ok (.istore_n 1, 1) := by decide +kernel
theorem dX12_clear_14 : decode cX12_clear 14 = .ok (.aload_n 0, 1) := by decide +kernel
theorem dX12_clear_15 : decode cX12_clear 15 = .ok (.iconst 0, 1) := by decide +kernel
theorem dX12_clear_16 : decode cX12_clear 16 = .ok (.putfield 127, 3) := by decide +kernel
theorem dX12_clear_19 : decode cX12_clear 19 = .ok (.iload_n 1, 1) := by decide +kernel
theorem dX12_clear_20 : decode cX12_clear 20 = .ok (.ireturn, 1) := by decide +kernel
theorem dX12_told_0 : decode cX12_told 0 = .ok (.aload_n 0, 1) := by decide +kernel
theorem dX12_told_1 : decode cX12_told 1 = .ok (.iconst 0, 1) := by decide +kernel
theorem dX12_told_2 : decode cX12_told 2 = .ok (.putfield 113, 3) := by decide +kernel
theorem dX12_told_5 : decode cX12_told 5 = .ok (.iload_n 1, 1) := by decide +kernel
theorem dX12_told_6 : decode cX12_told 6 = .ok (.iconst 0, 1) := by decide +kernel
theorem dX12_told_7 : decode cX12_told 7 = .ok (.aload_n 0, 1) := by decide +kernel
theorem dX12_told_8 : decode cX12_told 8 = .ok (.getfield 127, 3) := by decide +kernel
theorem dX12_told_11 : decode cX12_told 11 = .ok (.iconst 1, 1) := by decide +kernel
theorem dX12_told_12 : decode cX12_told 12 = .ok (.isub, 1) := by decide +kernel
theorem dX12_told_13 : decode cX12_told 13 = .ok (.invokestatic 139, 3) := by decide +kernel
theorem dX12_told_16 : decode cX12_told 16 = .ok (.ifCond .eq 12, 3) := by decide +kernel
theorem dX12_told_19 : decode cX12_told 19 = .ok (.iload_n 2, 1) := by decide +kernel
theorem dX12_told_20 : decode cX12_told 20 = .ok (.iconst 0, 1) := by decide +kernel
theorem dX12_told_21 : decode cX12_told 21 = .ok (.iconst 2, 1) := by decide +kernel
theorem dX12_told_22 : decode cX12_told 22 = .ok (.invokestatic 139, 3) := by decide +kernel
theorem dX12_told_25 : decode cX12_told 25 = .ok (.ifCond .ne 6, 3) := by decide +kernel
theorem dX12_told_28 : decode cX12_told 28 = .ok (.bipush (-3), 2) := by decide +kernel
theorem dX12_told_30 : decode cX12_told 30 = .ok (.ireturn, 1) := by decide +kernel
theorem dX12_told_31 : decode cX12_told 31 = .ok (.iconst 0, 1) := by decide +kernel
theorem dX12_told_32 : decode cX12_told 32 = .ok (.istore_n 3, 1) := by decide +kernel
theorem dX12_told_33 : decode cX12_told 33 = .ok (.iconst 0, 1) := by decide +kernel
theorem dX12_told_34 : decode cX12_told 34 = .ok (.istore 4, 2) := by decide +kernel
theorem dX12_told_36 : decode cX12_told 36 = .ok (.iload 4, 2) := by decide +kernel
theorem dX12_told_38 : decode cX12_told 38 = .ok (.iconst 4, 1) := by decide +kernel
theorem dX12_told_39 : decode cX12_told 39 = .ok (.if_icmp .ge 27, 3) := by decide +kernel
theorem dX12_told_42 : decode cX12_told 42 = .ok (.iload_n 3, 1) := by decide +kernel
theorem dX12_told_43 : decode cX12_told 43 = .ok (.aload_n 0, 1) := by decide +kernel
theorem dX12_told_44 : decode cX12_told 44 = .ok (.iload_n 1, 1) := by decide +kernel
theorem dX12_told_45 : decode cX12_told 45 = .ok (.iload 4, 2) := by decide +kernel
theorem dX12_told_47 : decode cX12_told 47 = .ok (.invokevirtual 269, 3) := by decide +kernel
theorem dX12_told_50 : decode cX12_told 50 = .ok (.ifCond .eq 7, 3) := by decide +kernel
theorem dX12_told_53 : decode cX12_told 53 = .ok (.iconst 1, 1) := by decide +kernel
theorem dX12_told_54 : decode cX12_told 54 = .ok (.goto 4, 3) := by decide +kernel
theorem dX12_told_57 : decode cX12_told 57 = .ok (.iconst 0, 1) := by decide +kernel
theorem dX12_told_58 : decode cX12_told 58 = .ok (.iadd, 1) := by decide +kernel
theorem dX12_told_59 : decode cX12_told 59 = .ok (.istore_n 3, 1) := by decide +kernel
theorem dX12_told_60 : decode cX12_told 60 = .ok (.iinc 4 1, 3) := by decide +kernel
theorem dX12_told_63 : decode cX12_told 63 = .ok (.goto (-27), 3) := by decide +kernel
theorem dX12_told_66 : decode cX12_told 66 = .ok (.iload_n 2, 1) := by decide +kernel
theorem dX12_told_67 : decode cX12_told 67 = .ok (.ifCond .ne 12, 3) := by decide +kernel
theorem dX12_told_70 : decode cX12_told 70 = .ok (.aload_n 0, 1) := by decide +kernel
theorem dX12_told_71 : decode cX12_told 71 = .ok (.getfield 19, 3) := by decide +kernel
theorem dX12_told_74 : decode cX12_told 74 = .ok (.iload_n 1, 1) := by decide +kernel
theorem dX12_told_75 : decode cX12_told 75 = .ok (.iaload, 1) := by decide +kernel
theorem dX12_told_76 : decode cX12_told 76 = .ok (.goto 18, 3) := by decide +kernel
theorem dX12_told_79 : decode cX12_told 79 = .ok (.iload_n 2, 1) := by decide +kernel
theorem dX12_told_80 : decode cX12_told 80 = .ok (.iconst 1, 1) := by decide +kernel
theorem dX12_told_81 : decode cX12_told 81 = .ok (.if_icmp .ne 12, 3) := by decide +kernel
theorem dX12_told_84 : decode cX12_told 84 = .ok (.aload_n 0, 1) := by decide +kernel
theorem dX12_told_85 : decode cX12_told 85 = .ok (.getfield 22, 3) := by decide +kernel
theorem dX12_told_88 : decode cX12_told 88 = .ok (.iload_n 1, 1) := by decide +kernel
theorem dX12_told_89 : decode cX12_told 89 = .ok (.iaload, 1) := by decide +kernel
theorem dX12_told_90 : decode cX12_told 90 = .ok (.goto 4, 3) := by decide +kernel
theorem dX12_told_93 : decode cX12_told 93 = .ok (.iload_n 3, 1) := by decide +kernel
theorem dX12_told_94 : decode cX12_told 94 = .ok (.ireturn, 1) := by decide +kernel
theorem dX12_toward_0 : decode cX12_toward 0 = .ok (.iload_n 2, 1) := by decide +kernel
theorem dX12_toward_1 : decode cX12_toward 1 = .ok (.ifCond .ne 12, 3) := by decide +kernel
theorem dX12_toward_4 : decode cX12_toward 4 = .ok (.aload_n 0, 1) := by decide +kernel
theorem dX12_toward_5 : decode cX12_toward 5 = .ok (.getfield 85, 3) := by decide +kernel
theorem dX12_toward_8 : decode cX12_toward 8 = .ok (.iload_n 1, 1) := by decide +kernel
theorem dX12_toward_9 : decode cX12_toward 9 = .ok (.iaload, 1) := by decide +kernel
theorem dX12_toward_10 : decode cX12_toward 10 = .ok (.goto 41, 3) := by decide +kernel
theorem dX12_toward_13 : decode cX12_toward 13 = .ok (.iload_n 2, 1) := by decide +kernel
theorem dX12_toward_14 : decode cX12_toward 14 = .ok (.iconst 1, 1) := by decide +kernel
theorem dX12_toward_15 : decode cX12_toward 15 = .ok (.if_icmp .ne 12, 3) := by decide +kernel
theorem dX12_toward_18 : decode cX12_toward 18 = .ok (.aload_n 0, 1) := by decide +kernel
theorem dX12_toward_19 : decode cX12_toward 19 = .ok (.getfield 88, 3) := by decide +kernel
theorem dX12_toward_22 : decode cX12_toward 22 = .ok (.iload_n 1, 1) := by decide +kernel
theorem dX12_toward_23 : decode cX12_toward 23 = .ok (.iaload, 1) := by decide +kernel
theorem dX12_toward_24 : decode cX12_toward 24 = .ok (.goto 27, 3) := by decide +kernel
theorem dX12_toward_27 : decode cX12_toward 27 = .ok (.iload_n 2, 1) := by decide +kernel
theorem dX12_toward_28 : decode cX12_toward 28 = .ok (.iconst 2, 1) := by decide +kernel
theorem dX12_toward_29 : decode cX12_toward 29 = .ok (.if_icmp .ne 14, 3) := by decide +kernel
theorem dX12_toward_32 : decode cX12_toward 32 = .ok (.aload_n 0, 1) := by decide +kernel
theorem dX12_toward_33 : decode cX12_toward 33 = .ok (.getfield 85, 3) := by decide +kernel
theorem dX12_toward_36 : decode cX12_toward 36 = .ok (.iload_n 1, 1) := by decide +kernel
theorem dX12_toward_37 : decode cX12_toward 37 = .ok (.iaload, 1) := by decide +kernel
theorem dX12_toward_38 : decode cX12_toward 38 = .ok (.iconst 1, 1) := by decide +kernel
theorem dX12_toward_39 : decode cX12_toward 39 = .ok (.ixor, 1) := by decide +kernel
theorem dX12_toward_40 : decode cX12_toward 40 = .ok (.goto 11, 3) := by decide +kernel
theorem dX12_toward_43 : decode cX12_toward 43 = .ok (.aload_n 0, 1) := by decide +kernel
theorem dX12_toward_44 : decode cX12_toward 44 = .ok (.getfield 88, 3) := by decide +kernel
theorem dX12_toward_47 : decode cX12_toward 47 = .ok (.iload_n 1, 1) := by decide +kernel
theorem dX12_toward_48 : decode cX12_toward 48 = .ok (.iaload, 1) := by decide +kernel
theorem dX12_toward_49 : decode cX12_toward 49 = .ok (.iconst 1, 1) := by decide +kernel
theorem dX12_toward_50 : decode cX12_toward 50 = .ok (.ixor, 1) := by decide +kernel
theorem dX12_toward_51 : decode cX12_toward 51 = .ok (.ireturn, 1) := by decide +kernel
theorem dX12_foldAcross_0 : decode cX12_foldAcross 0 = .ok (.aload_n 0, 1) := by decide +kernel
theorem dX12_foldAcross_1 : decode cX12_foldAcross 1 = .ok (.iload_n 1, 1) := by decide +kernel
theorem dX12_foldAcross_2 : decode cX12_foldAcross 2 = .ok (.iload_n 2, 1) := by decide +kernel
theorem dX12_foldAcross_3 : decode cX12_foldAcross 3 = .ok (.invokevirtual 269, 3) := by decide +kernel
theorem dX12_foldAcross_6 : decode cX12_foldAcross 6 = .ok (.iconst 2, 1) := by decide +kernel
theorem dX12_foldAcross_7 : decode cX12_foldAcross 7 = .ok (.isub, 1) := by decide +kernel
theorem dX12_foldAcross_8 : decode cX12_foldAcross 8 = .ok (.istore_n 3, 1) := by decide +kernel
theorem dX12_foldAcross_9 : decode cX12_foldAcross 9 = .ok (.aload_n 0, 1) := by decide +kernel
theorem dX12_foldAcross_10 : decode cX12_foldAcross 10 = .ok (.iload_n 1, 1) := by decide +kernel
theorem dX12_foldAcross_11 : decode cX12_foldAcross 11 = .ok (.iload_n 2, 1) := by decide +kernel
theorem dX12_foldAcross_12 : decode cX12_foldAcross 12 = .ok (.invokevirtual 258, 3) := by decide +kernel
theorem dX12_foldAcross_15 : decode cX12_foldAcross 15 = .ok (.istore 4, 2) := by decide +kernel
theorem dX12_foldAcross_17 : decode cX12_foldAcross 17 = .ok (.aload_n 0, 1) := by decide +kernel
theorem dX12_foldAcross_18 : decode cX12_foldAcross 18 = .ok (.iload_n 1, 1) := by decide +kernel
theorem dX12_foldAcross_19 : decode cX12_foldAcross 19 = .ok (.iload_n 2, 1) := by decide +kernel
theorem dX12_foldAcross_20 : decode cX12_foldAcross 20 = .ok (.invokevirtual 279, 3) := by decide +kernel
theorem dX12_foldAcross_23 : decode cX12_foldAcross 23 = .ok (.istore 5, 2) := by decide +kernel
theorem dX12_foldAcross_25 : decode cX12_foldAcross 25 = .ok (.aload_n 0, 1) := by decide +kernel
theorem dX12_foldAcross_26 : decode cX12_foldAcross 26 = .ok (.iload_n 1, 1) := by decide +kernel
theorem dX12_foldAcross_27 : decode cX12_foldAcross 27 = .ok (.iload_n 2, 1) := by decide +kernel
theorem dX12_foldAcross_28 : decode cX12_foldAcross 28 = .ok (.iconst 1, 1) := by decide +kernel
theorem dX12_foldAcross_29 : decode cX12_foldAcross 29 = .ok (.iadd, 1) := by decide +kernel
theorem dX12_foldAcross_30 : decode cX12_foldAcross 30 = .ok (.iconst 4, 1) := by decide +kernel
theorem dX12_foldAcross_31 : decode cX12_foldAcross 31 = .ok (.irem, 1) := by decide +kernel
theorem dX12_foldAcross_32 : decode cX12_foldAcross 32 = .ok (.invokevirtual 279, 3) := by decide +kernel
theorem dX12_foldAcross_35 : decode cX12_foldAcross 35 = .ok (.istore 6, 2) := by decide +kernel
theorem dX12_foldAcross_37 : decode cX12_foldAcross 37 = .ok (.aload_n 0, 1) := by decide +kernel
theorem dX12_foldAcross_38 : decode cX12_foldAcross 38 = .ok (.getfield 91, 3) := by decide +kernel
theorem dX12_foldAcross_41 : decode cX12_foldAcross 41 = .ok (.iload_n 1, 1) := by decide +kernel
theorem dX12_foldAcross_42 : decode cX12_foldAcross 42 = .ok (.iaload, 1) := by decide +kernel
theorem dX12_foldAcross_43 : decode cX12_foldAcross 43 = .ok (.istore 7, 2) := by decide +kernel
theorem dX12_foldAcross_45 : decode cX12_foldAcross 45 = .ok (.iload_n 3, 1) := by decide +kernel
theorem dX12_foldAcross_46 : decode cX12_foldAcross 46 = .ok (.ifCond .ne 8, 3) := by decide +kernel
theorem dX12_foldAcross_49 : decode cX12_foldAcross 49 = .ok (.iload 5, 2) := by decide +kernel
theorem dX12_foldAcross_51 : decode cX12_foldAcross 51 = .ok (.goto 17, 3) := by decide +kernel
theorem dX12_foldAcross_54 : decode cX12_foldAcross 54 = .ok (.iload_n 3, 1) := by decide +kernel
theorem dX12_foldAcross_55 : decode cX12_foldAcross 55 = .ok (.iconst 1, 1) := by decide +kernel
theorem dX12_foldAcross_56 : decode cX12_foldAcross 56 = .ok (.if_icmp .ne 10, 3) := by decide +kernel
theorem dX12_foldAcross_59 : decode cX12_foldAcross 59 = .ok (.iload 7, 2) := by decide +kernel
theorem dX12_foldAcross_61 : decode cX12_foldAcross 61 = .ok (.iconst 1, 1) := by decide +kernel
theorem dX12_foldAcross_62 : decode cX12_foldAcross 62 = .ok (.ixor, 1) := by decide +kernel
theorem dX12_foldAcross_63 : decode cX12_foldAcross 63 = .ok (.goto 5, 3) := by decide +kernel
theorem dX12_foldAcross_66 : decode cX12_foldAcross 66 = .ok (.iload 7, 2) := by decide +kernel
theorem dX12_foldAcross_68 : decode cX12_foldAcross 68 = .ok (.istore 8, 2) := by decide +kernel
theorem dX12_foldAcross_70 : decode cX12_foldAcross 70 = .ok (.iload_n 3, 1) := by decide +kernel
theorem dX12_foldAcross_71 : decode cX12_foldAcross 71 = .ok (.ifCond .ne 8, 3) := by decide +kernel
theorem dX12_foldAcross_74 : decode cX12_foldAcross 74 = .ok (.iload 7, 2) := by decide +kernel
theorem dX12_foldAcross_76 : decode cX12_foldAcross 76 = .ok (.goto 17, 3) := by decide +kernel
theorem dX12_foldAcross_79 : decode cX12_foldAcross 79 = .ok (.iload_n 3, 1) := by decide +kernel
theorem dX12_foldAcross_80 : decode cX12_foldAcross 80 = .ok (.iconst 1, 1) := by decide +kernel
theorem dX12_foldAcross_81 : decode cX12_foldAcross 81 = .ok (.if_icmp .ne 8, 3) := by decide +kernel
theorem dX12_foldAcross_84 : decode cX12_foldAcross 84 = .ok (.iload 5, 2) := by decide +kernel
theorem dX12_foldAcross_86 : decode cX12_foldAcross 86 = .ok (.goto 7, 3) := by decide +kernel
theorem dX12_foldAcross_89 : decode cX12_foldAcross 89 = .ok (.iload 5, 2) := by decide +kernel
theorem dX12_foldAcross_91 : decode cX12_foldAcross 91 = .ok (.iconst 1, 1) := by decide +kernel
theorem dX12_foldAcross_92 : decode cX12_foldAcross 92 = .ok (.ixor, 1) := by decide +kernel
theorem dX12_foldAcross_93 : decode cX12_foldAcross 93 = .ok (.istore 9, 2) := by decide +kernel
theorem dX12_foldAcross_95 : decode cX12_foldAcross 95 = .ok (.iload_n 3, 1) := by decide +kernel
theorem dX12_foldAcross_96 : decode cX12_foldAcross 96 = .ok (.ifCond .ne 8, 3) := by decide +kernel
theorem dX12_foldAcross_99 : decode cX12_foldAcross 99 = .ok (.iload 5, 2) := by decide +kernel
theorem dX12_foldAcross_101 : decode cX12_foldAcross 101 = .ok (.goto 17, 3) := by decide +kernel
theorem dX12_foldAcross_104 : decode cX12_foldAcross 104 = .ok (.iload_n 3, 1) := by decide +kernel
theorem dX12_foldAcross_105 : decode cX12_foldAcross 105 = .ok (.iconst 1, 1) := by decide +kernel
theorem dX12_foldAcross_106 : decode cX12_foldAcross 106 = .ok (.if_icmp .ne 10, 3) := by decide +kernel
theorem dX12_foldAcross_109 : decode cX12_foldAcross 109 = .ok (.iload 7, 2) := by decide +kernel
theorem dX12_foldAcross_111 : decode cX12_foldAcross 111 = .ok (.iconst 1, 1) := by decide +kernel
theorem dX12_foldAcross_112 : decode cX12_foldAcross 112 = .ok (.ixor, 1) := by decide +kernel
theorem dX12_foldAcross_113 : decode cX12_foldAcross 113 = .ok (.goto 5, 3) := by decide +kernel
theorem dX12_foldAcross_116 : decode cX12_foldAcross 116 = .ok (.iload 7, 2) := by decide +kernel
theorem dX12_foldAcross_118 : decode cX12_foldAcross 118 = .ok (.istore 10, 2) := by decide +kernel
theorem dX12_foldAcross_120 : decode cX12_foldAcross 120 = .ok (.aload_n 0, 1) := by decide +kernel
theorem dX12_foldAcross_121 : decode cX12_foldAcross 121 = .ok (.getfield 76, 3) := by decide +kernel
theorem dX12_foldAcross_124 : decode cX12_foldAcross 124 = .ok (.iload_n 1, 1) := by decide +kernel
theorem dX12_foldAcross_125 : decode cX12_foldAcross 125 = .ok (.iaload, 1) := by decide +kernel
theorem dX12_foldAcross_126 : decode cX12_foldAcross 126 = .ok (.iload 5, 2) := by decide +kernel
theorem dX12_foldAcross_128 : decode cX12_foldAcross 128 = .ok (.iconst 0, 1) := by decide +kernel
theorem dX12_foldAcross_129 : decode cX12_foldAcross 129 = .ok (.invokestatic 154, 3) := by decide +kernel
theorem dX12_foldAcross_132 : decode cX12_foldAcross 132 = .ok (.iadd, 1) := by decide +kernel
theorem dX12_foldAcross_133 : decode cX12_foldAcross 133 = .ok (.iload 10, 2) := by decide +kernel
theorem dX12_foldAcross_135 : decode cX12_foldAcross 135 = .ok (.iconst 0, 1) := by decide +kernel
theorem dX12_foldAcross_136 : decode cX12_foldAcross 136 = .ok (.invokestatic 154, 3) := by decide +kernel
theorem dX12_foldAcross_139 : decode cX12_foldAcross 139 = .ok (.iadd, 1) := by decide +kernel
theorem dX12_foldAcross_140 : decode cX12_foldAcross 140 = .ok (.istore 11, 2) := by decide +kernel
theorem dX12_foldAcross_142 : decode cX12_foldAcross 142 = .ok (.aload_n 0, 1) := by decide +kernel
theorem dX12_foldAcross_143 : decode cX12_foldAcross 143 = .ok (.getfield 79, 3) := by decide +kernel
theorem dX12_foldAcross_146 : decode cX12_foldAcross 146 = .ok (.iload_n 1, 1) := by decide +kernel
theorem dX12_foldAcross_147 : decode cX12_foldAcross 147 = .ok (.iaload, 1) := by decide +kernel
theorem dX12_foldAcross_148 : decode cX12_foldAcross 148 = .ok (.iload 5, 2) := by decide +kernel
theorem dX12_foldAcross_150 : decode cX12_foldAcross 150 = .ok (.iconst 1, 1) := by decide +kernel
theorem dX12_foldAcross_151 : decode cX12_foldAcross 151 = .ok (.invokestatic 154, 3) := by decide +kernel
theorem dX12_foldAcross_154 : decode cX12_foldAcross 154 = .ok (.iadd, 1) := by decide +kernel
theorem dX12_foldAcross_155 : decode cX12_foldAcross 155 = .ok (.iload 10, 2) := by decide +kernel
theorem dX12_foldAcross_157 : decode cX12_foldAcross 157 = .ok (.iconst 1, 1) := by decide +kernel
theorem dX12_foldAcross_158 : decode cX12_foldAcross 158 = .ok (.invokestatic 154, 3) := by decide +kernel
theorem dX12_foldAcross_161 : decode cX12_foldAcross 161 = .ok (.iadd, 1) := by decide +kernel
theorem dX12_foldAcross_162 : decode cX12_foldAcross 162 = .ok (.istore 12, 2) := by decide +kernel
theorem dX12_foldAcross_164 : decode cX12_foldAcross 164 = .ok (.aload_n 0, 1) := by decide +kernel
theorem dX12_foldAcross_165 : decode cX12_foldAcross 165 = .ok (.getfield 82, 3) := by decide +kernel
theorem dX12_foldAcross_168 : decode cX12_foldAcross 168 = .ok (.iload_n 1, 1) := by decide +kernel
theorem dX12_foldAcross_169 : decode cX12_foldAcross 169 = .ok (.iaload, 1) := by decide +kernel
theorem dX12_foldAcross_170 : decode cX12_foldAcross 170 = .ok (.iload 5, 2) := by decide +kernel
theorem dX12_foldAcross_172 : decode cX12_foldAcross 172 = .ok (.iconst 2, 1) := by decide +kernel
theorem dX12_foldAcross_173 : decode cX12_foldAcross 173 = .ok (.invokestatic 154, 3) := by decide +kernel
theorem dX12_foldAcross_176 : decode cX12_foldAcross 176 = .ok (.iadd, 1) := by decide +kernel
theorem dX12_foldAcross_177 : decode cX12_foldAcross 177 = .ok (.iload 10, 2) := by decide +kernel
theorem dX12_foldAcross_179 : decode cX12_foldAcross 179 = .ok (.iconst 2, 1) := by decide +kernel
theorem dX12_foldAcross_180 : decode cX12_foldAcross 180 = .ok (.invokestatic 154, 3) := by decide +kernel
theorem dX12_foldAcross_183 : decode cX12_foldAcross 183 = .ok (.iadd, 1) := by decide +kernel
theorem dX12_foldAcross_184 : decode cX12_foldAcross 184 = .ok (.istore 13, 2) := by decide +kernel
theorem dX12_foldAcross_186 : decode cX12_foldAcross 186 = .ok (.iload_n 2, 1) := by decide +kernel
theorem dX12_foldAcross_187 : decode cX12_foldAcross 187 = .ok (.ifCond .ne 8, 3) := by decide +kernel
theorem dX12_foldAcross_190 : decode cX12_foldAcross 190 = .ok (.iload 8, 2) := by decide +kernel
theorem dX12_foldAcross_192 : decode cX12_foldAcross 192 = .ok (.goto 29, 3) := by decide +kernel
theorem dX12_foldAcross_195 : decode cX12_foldAcross 195 = .ok (.iload_n 2, 1) := by decide +kernel
theorem dX12_foldAcross_196 : decode cX12_foldAcross 196 = .ok (.iconst 1, 1) := by decide +kernel
theorem dX12_foldAcross_197 : decode cX12_foldAcross 197 = .ok (.if_icmp .ne 10, 3) := by decide +kernel
theorem dX12_foldAcross_200 : decode cX12_foldAcross 200 = .ok (.iload 6, 2) := by decide +kernel
theorem dX12_foldAcross_202 : decode cX12_foldAcross 202 = .ok (.iconst 1, 1) := by decide +kernel
theorem dX12_foldAcross_203 : decode cX12_foldAcross 203 = .ok (.ixor, 1) := by decide +kernel
theorem dX12_foldAcross_204 : decode cX12_foldAcross 204 = .ok (.goto 17, 3) := by decide +kernel
theorem dX12_foldAcross_207 : decode cX12_foldAcross 207 = .ok (.iload_n 2, 1) := by decide +kernel
theorem dX12_foldAcross_208 : decode cX12_foldAcross 208 = .ok (.iconst 2, 1) := by decide +kernel
theorem dX12_foldAcross_209 : decode cX12_foldAcross 209 = .ok (.if_icmp .ne 10, 3) := by decide +kernel
theorem dX12_foldAcross_212 : decode cX12_foldAcross 212 = .ok (.iload 8, 2) := by decide +kernel
theorem dX12_foldAcross_214 : decode cX12_foldAcross 214 = .ok (.iconst 1, 1) := by decide +kernel
theorem dX12_foldAcross_215 : decode cX12_foldAcross 215 = .ok (.ixor, 1) := by decide +kernel
theorem dX12_foldAcross_216 : decode cX12_foldAcross 216 = .ok (.goto 5, 3) := by decide +kernel
theorem dX12_foldAcross_219 : decode cX12_foldAcross 219 = .ok (.iload 6, 2) := by decide +kernel
theorem dX12_foldAcross_221 : decode cX12_foldAcross 221 = .ok (.istore 14, 2) := by decide +kernel
theorem dX12_foldAcross_223 : decode cX12_foldAcross 223 = .ok (.iload_n 2, 1) := by decide +kernel
theorem dX12_foldAcross_224 : decode cX12_foldAcross 224 = .ok (.ifCond .ne 8, 3) := by decide +kernel
theorem dX12_foldAcross_227 : decode cX12_foldAcross 227 = .ok (.iload 6, 2) := by decide +kernel
theorem dX12_foldAcross_229 : decode cX12_foldAcross 229 = .ok (.goto 29, 3) := by decide +kernel
theorem dX12_foldAcross_232 : decode cX12_foldAcross 232 = .ok (.iload_n 2, 1) := by decide +kernel
theorem dX12_foldAcross_233 : decode cX12_foldAcross 233 = .ok (.iconst 1, 1) := by decide +kernel
theorem dX12_foldAcross_234 : decode cX12_foldAcross 234 = .ok (.if_icmp .ne 8, 3) := by decide +kernel
theorem dX12_foldAcross_237 : decode cX12_foldAcross 237 = .ok (.iload 8, 2) := by decide +kernel
theorem dX12_foldAcross_239 : decode cX12_foldAcross 239 = .ok (.goto 19, 3) := by decide +kernel
theorem dX12_foldAcross_242 : decode cX12_foldAcross 242 = .ok (.iload_n 2, 1) := by decide +kernel
theorem dX12_foldAcross_243 : decode cX12_foldAcross 243 = .ok (.iconst 2, 1) := by decide +kernel
theorem dX12_foldAcross_244 : decode cX12_foldAcross 244 = .ok (.if_icmp .ne 10, 3) := by decide +kernel
theorem dX12_foldAcross_247 : decode cX12_foldAcross 247 = .ok (.iload 6, 2) := by decide +kernel
theorem dX12_foldAcross_249 : decode cX12_foldAcross 249 = .ok (.iconst 1, 1) := by decide +kernel
theorem dX12_foldAcross_250 : decode cX12_foldAcross 250 = .ok (.ixor, 1) := by decide +kernel
theorem dX12_foldAcross_251 : decode cX12_foldAcross 251 = .ok (.goto 7, 3) := by decide +kernel
theorem dX12_foldAcross_254 : decode cX12_foldAcross 254 = .ok (.iload 8, 2) := by decide +kernel
theorem dX12_foldAcross_256 : decode cX12_foldAcross 256 = .ok (.iconst 1, 1) := by decide +kernel
theorem dX12_foldAcross_257 : decode cX12_foldAcross 257 = .ok (.ixor, 1) := by decide +kernel
theorem dX12_foldAcross_258 : decode cX12_foldAcross 258 = .ok (.istore 15, 2) := by decide +kernel
theorem dX12_foldAcross_260 : decode cX12_foldAcross 260 = .ok (.aload_n 0, 1) := by decide +kernel
theorem dX12_foldAcross_261 : decode cX12_foldAcross 261 = .ok (.getfield 73, 3) := by decide +kernel
theorem dX12_foldAcross_264 : decode cX12_foldAcross 264 = .ok (.iload 4, 2) := by decide +kernel
theorem dX12_foldAcross_266 : decode cX12_foldAcross 266 = .ok (.iaload, 1) := by decide +kernel
theorem dX12_foldAcross_267 : decode cX12_foldAcross 267 = .ok (.iconst 1, 1) := by decide +kernel
theorem dX12_foldAcross_268 : decode cX12_foldAcross 268 = .ok (.if_icmp .ne 93, 3) := by decide +kernel
theorem dX12_foldAcross_271 : decode cX12_foldAcross 271 = .ok (.aload_n 0, 1) := by decide +kernel
theorem dX12_foldAcross_272 : decode cX12_foldAcross 272 = .ok (.getfield 76, 3) := by decide +kernel
theorem dX12_foldAcross_275 : decode cX12_foldAcross 275 = .ok (.iload 4, 2) := by decide +kernel
theorem dX12_foldAcross_277 : decode cX12_foldAcross 277 = .ok (.iaload, 1) := by decide +kernel
theorem dX12_foldAcross_278 : decode cX12_foldAcross 278 = .ok (.iload 11, 2) := by decide +kernel
theorem dX12_foldAcross_280 : decode cX12_foldAcross 280 = .ok (.if_icmp .ne 67, 3) := by decide +kernel
theorem dX12_foldAcross_283 : decode cX12_foldAcross 283 = .ok (.aload_n 0, 1) := by decide +kernel
theorem dX12_foldAcross_284 : decode cX12_foldAcross 284 = .ok (.getfield 79, 3) := by decide +kernel
theorem dX12_foldAcross_287 : decode cX12_foldAcross 287 = .ok (.iload 4, 2) := by decide +kernel
theorem dX12_foldAcross_289 : decode cX12_foldAcross 289 = .ok (.iaload, 1) := by decide +kernel
theorem dX12_foldAcross_290 : decode cX12_foldAcross 290 = .ok (.iload 12, 2) := by decide +kernel
theorem dX12_foldAcross_292 : decode cX12_foldAcross 292 = .ok (.if_icmp .ne 55, 3) := by decide +kernel
theorem dX12_foldAcross_295 : decode cX12_foldAcross 295 = .ok (.aload_n 0, 1) := by decide +kernel
theorem dX12_foldAcross_296 : decode cX12_foldAcross 296 = .ok (.getfield 82, 3) := by decide +kernel
theorem dX12_foldAcross_299 : decode cX12_foldAcross 299 = .ok (.iload 4, 2) := by decide +kernel
theorem dX12_foldAcross_301 : decode cX12_foldAcross 301 = .ok (.iaload, 1) := by decide +kernel
theorem dX12_foldAcross_302 : decode cX12_foldAcross 302 = .ok (.iload 13, 2) := by decide +kernel
theorem dX12_foldAcross_304 : decode cX12_foldAcross 304 = .ok (.if_icmp .ne 43, 3) := by decide +kernel
theorem dX12_foldAcross_307 : decode cX12_foldAcross 307 = .ok (.aload_n 0, 1) := by decide +kernel
theorem dX12_foldAcross_308 : decode cX12_foldAcross 308 = .ok (.getfield 85, 3) := by decide +kernel
theorem dX12_foldAcross_311 : decode cX12_foldAcross 311 = .ok (.iload 4, 2) := by decide +kernel
theorem dX12_foldAcross_313 : decode cX12_foldAcross 313 = .ok (.iaload, 1) := by decide +kernel
theorem dX12_foldAcross_314 : decode cX12_foldAcross 314 = .ok (.iload 14, 2) := by decide +kernel
theorem dX12_foldAcross_316 : decode cX12_foldAcross 316 = .ok (.if_icmp .ne 31, 3) := by decide +kernel
theorem dX12_foldAcross_319 : decode cX12_foldAcross 319 = .ok (.aload_n 0, 1) := by decide +kernel
theorem dX12_foldAcross_320 : decode cX12_foldAcross 320 = .ok (.getfield 88, 3) := by decide +kernel
theorem dX12_foldAcross_323 : decode cX12_foldAcross 323 = .ok (.iload 4, 2) := by decide +kernel
theorem dX12_foldAcross_325 : decode cX12_foldAcross 325 = .ok (.iaload, 1) := by decide +kernel
theorem dX12_foldAcross_326 : decode cX12_foldAcross 326 = .ok (.iload 15, 2) := by decide +kernel
theorem dX12_foldAcross_328 : decode cX12_foldAcross 328 = .ok (.if_icmp .ne 19, 3) := by decide +kernel
theorem dX12_foldAcross_331 : decode cX12_foldAcross 331 = .ok (.aload_n 0, 1) := by decide +kernel
theorem dX12_foldAcross_332 : decode cX12_foldAcross 332 = .ok (.getfield 91, 3) := by decide +kernel
theorem dX12_foldAcross_335 : decode cX12_foldAcross 335 = .ok (.iload 4, 2) := by decide +kernel
theorem dX12_foldAcross_337 : decode cX12_foldAcross 337 = .ok (.iaload, 1) := by decide +kernel
theorem dX12_foldAcross_338 : decode cX12_foldAcross 338 = .ok (.iload 9, 2) := by decide +kernel
theorem dX12_foldAcross_340 : decode cX12_foldAcross 340 = .ok (.if_icmp .ne 7, 3) := by decide +kernel
theorem dX12_foldAcross_343 : decode cX12_foldAcross 343 = .ok (.iconst 1, 1) := by decide +kernel
theorem dX12_foldAcross_344 : decode cX12_foldAcross 344 = .ok (.goto 4, 3) := by decide +kernel
theorem dX12_foldAcross_347 : decode cX12_foldAcross 347 = .ok (.iconst 0, 1) := by decide +kernel
theorem dX12_foldAcross_348 : decode cX12_foldAcross 348 = .ok (.istore 16, 2) := by decide +kernel
theorem dX12_foldAcross_350 : decode cX12_foldAcross 350 = .ok (.iload 16, 2) := by decide +kernel
theorem dX12_foldAcross_352 : decode cX12_foldAcross 352 = .ok (.ifCond .eq 7, 3) := by decide +kernel
theorem dX12_foldAcross_355 : decode cX12_foldAcross 355 = .ok (.iconst 0, 1) := by decide +kernel
theorem dX12_foldAcross_356 : decode cX12_foldAcross 356 = .ok (.goto 4, 3) := by decide +kernel
theorem dX12_foldAcross_359 : decode cX12_foldAcross 359 = .ok (.iconst 2, 1) := by decide +kernel
theorem dX12_foldAcross_360 : decode cX12_foldAcross 360 = .ok (.ireturn, 1) := by decide +kernel
theorem dX12_foldAcross_361 : decode cX12_foldAcross 361 = .ok (.aload_n 0, 1) := by decide +kernel
theorem dX12_foldAcross_362 : decode cX12_foldAcross 362 = .ok (.getfield 73, 3) := by decide +kernel
theorem dX12_foldAcross_365 : decode cX12_foldAcross 365 = .ok (.iload 4, 2) := by decide +kernel
theorem dX12_foldAcross_367 : decode cX12_foldAcross 367 = .ok (.iconst 1, 1) := by decide +kernel
theorem dX12_foldAcross_368 : decode cX12_foldAcross 368 = .ok (.iastore, 1) := by decide +kernel
theorem dX12_foldAcross_369 : decode cX12_foldAcross 369 = .ok (.aload_n 0, 1) := by decide +kernel
theorem dX12_foldAcross_370 : decode cX12_foldAcross 370 = .ok (.getfield 76, 3) := by decide +kernel
theorem dX12_foldAcross_373 : decode cX12_foldAcross 373 = .ok (.iload 4, 2) := by decide +kernel
theorem dX12_foldAcross_375 : decode cX12_foldAcross 375 = .ok (.iload 11, 2) := by decide +kernel
theorem dX12_foldAcross_377 : decode cX12_foldAcross 377 = .ok (.iastore, 1) := by decide +kernel
theorem dX12_foldAcross_378 : decode cX12_foldAcross 378 = .ok (.aload_n 0, 1) := by decide +kernel
theorem dX12_foldAcross_379 : decode cX12_foldAcross 379 = .ok (.getfield 79, 3) := by decide +kernel
theorem dX12_foldAcross_382 : decode cX12_foldAcross 382 = .ok (.iload 4, 2) := by decide +kernel
theorem dX12_foldAcross_384 : decode cX12_foldAcross 384 = .ok (.iload 12, 2) := by decide +kernel
theorem dX12_foldAcross_386 : decode cX12_foldAcross 386 = .ok (.iastore, 1) := by decide +kernel
theorem dX12_foldAcross_387 : decode cX12_foldAcross 387 = .ok (.aload_n 0, 1) := by decide +kernel
theorem dX12_foldAcross_388 : decode cX12_foldAcross 388 = .ok (.getfield 82, 3) := by decide +kernel
theorem dX12_foldAcross_391 : decode cX12_foldAcross 391 = .ok (.iload 4, 2) := by decide +kernel
theorem dX12_foldAcross_393 : decode cX12_foldAcross 393 = .ok (.iload 13, 2) := by decide +kernel
theorem dX12_foldAcross_395 : decode cX12_foldAcross 395 = .ok (.iastore, 1) := by decide +kernel
theorem dX12_foldAcross_396 : decode cX12_foldAcross 396 = .ok (.aload_n 0, 1) := by decide +kernel
theorem dX12_foldAcross_397 : decode cX12_foldAcross 397 = .ok (.getfield 85, 3) := by decide +kernel
theorem dX12_foldAcross_400 : decode cX12_foldAcross 400 = .ok (.iload 4, 2) := by decide +kernel
theorem dX12_foldAcross_402 : decode cX12_foldAcross 402 = .ok (.iload 14, 2) := by decide +kernel
theorem dX12_foldAcross_404 : decode cX12_foldAcross 404 = .ok (.iastore, 1) := by decide +kernel
theorem dX12_foldAcross_405 : decode cX12_foldAcross 405 = .ok (.aload_n 0, 1) := by decide +kernel
theorem dX12_foldAcross_406 : decode cX12_foldAcross 406 = .ok (.getfield 88, 3) := by decide +kernel
theorem dX12_foldAcross_409 : decode cX12_foldAcross 409 = .ok (.iload 4, 2) := by decide +kernel
theorem dX12_foldAcross_411 : decode cX12_foldAcross 411 = .ok (.iload 15, 2) := by decide +kernel
theorem dX12_foldAcross_413 : decode cX12_foldAcross 413 = .ok (.iastore, 1) := by decide +kernel
theorem dX12_foldAcross_414 : decode cX12_foldAcross 414 = .ok (.aload_n 0, 1) := by decide +kernel
theorem dX12_foldAcross_415 : decode cX12_foldAcross 415 = .ok (.getfield 91, 3) := by decide +kernel
theorem dX12_foldAcross_418 : decode cX12_foldAcross 418 = .ok (.iload 4, 2) := by decide +kernel
theorem dX12_foldAcross_420 : decode cX12_foldAcross 420 = .ok (.iload 9, 2) := by decide +kernel
theorem dX12_foldAcross_422 : decode cX12_foldAcross 422 = .ok (.iastore, 1) := by decide +kernel
theorem dX12_foldAcross_423 : decode cX12_foldAcross 423 = .ok (.iconst 1, 1) := by decide +kernel
theorem dX12_foldAcross_424 : decode cX12_foldAcross 424 = .ok (.ireturn, 1) := by decide +kernel
theorem dX12_foldOf_0 : decode cX12_foldOf 0 = .ok (.aload_n 0, 1) := by decide +kernel
theorem dX12_foldOf_1 : decode cX12_foldOf 1 = .ok (.getfield 127, 3) := by decide +kernel
theorem dX12_foldOf_4 : decode cX12_foldOf 4 = .ok (.ifCond .ne 5, 3) := by decide +kernel
theorem dX12_foldOf_7 : decode cX12_foldOf 7 = .ok (.iconst 1, 1) := by decide +kernel
theorem dX12_foldOf_8 : decode cX12_foldOf 8 = .ok (.ireturn, 1) := by decide +kernel
theorem dX12_foldOf_9 : decode cX12_foldOf 9 = .ok (.iconst 0, 1) := by decide +kernel
theorem dX12_foldOf_10 : decode cX12_foldOf 10 = .ok (.istore_n 1, 1) := by decide +kernel
theorem dX12_foldOf_11 : decode cX12_foldOf 11 = .ok (.iload_n 1, 1) := by decide +kernel
theorem dX12_foldOf_12 : decode cX12_foldOf 12 = .ok (.aload_n 0, 1) := by decide +kernel
theorem dX12_foldOf_13 : decode cX12_foldOf 13 = .ok (.getfield 127, 3) := by decide +kernel
theorem dX12_foldOf_16 : decode cX12_foldOf 16 = .ok (.if_icmp .ge 16, 3) := by decide +kernel
theorem dX12_foldOf_19 : decode cX12_foldOf 19 = .ok (.aload_n 0, 1) := by decide +kernel
theorem dX12_foldOf_20 : decode cX12_foldOf 20 = .ok (.getfield 73, 3) := by decide +kernel
theorem dX12_foldOf_23 : decode cX12_foldOf 23 = .ok (.iload_n 1, 1) := by decide +kernel
theorem dX12_foldOf_24 : decode cX12_foldOf 24 = .ok (.iconst 0, 1) := by decide +kernel
theorem dX12_foldOf_25 : decode cX12_foldOf 25 = .ok (.iastore, 1) := by decide +kernel
theorem dX12_foldOf_26 : decode cX12_foldOf 26 = .ok (.iinc 1 1, 3) := by decide +kernel
theorem dX12_foldOf_29 : decode cX12_foldOf 29 = .ok (.goto (-18), 3) := by decide +kernel
theorem dX12_foldOf_32 : decode cX12_foldOf 32 = .ok (.aload_n 0, 1) := by decide +kernel
theorem dX12_foldOf_33 : decode cX12_foldOf 33 = .ok (.getfield 73, 3) := by decide +kernel
theorem dX12_foldOf_36 : decode cX12_foldOf 36 = .ok (.iconst 0, 1) := by decide +kernel
theorem dX12_foldOf_37 : decode cX12_foldOf 37 = .ok (.iconst 1, 1) := by decide +kernel
theorem dX12_foldOf_38 : decode cX12_foldOf 38 = .ok (.iastore, 1) := by decide +kernel
theorem dX12_foldOf_39 : decode cX12_foldOf 39 = .ok (.aload_n 0, 1) := by decide +kernel
theorem dX12_foldOf_40 : decode cX12_foldOf 40 = .ok (.getfield 76, 3) := by decide +kernel
theorem dX12_foldOf_43 : decode cX12_foldOf 43 = .ok (.iconst 0, 1) := by decide +kernel
theorem dX12_foldOf_44 : decode cX12_foldOf 44 = .ok (.iconst 0, 1) := by decide +kernel
theorem dX12_foldOf_45 : decode cX12_foldOf 45 = .ok (.iastore, 1) := by decide +kernel
theorem dX12_foldOf_46 : decode cX12_foldOf 46 = .ok (.aload_n 0, 1) := by decide +kernel
theorem dX12_foldOf_47 : decode cX12_foldOf 47 = .ok (.getfield 79, 3) := by decide +kernel
theorem dX12_foldOf_50 : decode cX12_foldOf 50 = .ok (.iconst 0, 1) := by decide +kernel
theorem dX12_foldOf_51 : decode cX12_foldOf 51 = .ok (.iconst 0, 1) := by decide +kernel
theorem dX12_foldOf_52 : decode cX12_foldOf 52 = .ok (.iastore, 1) := by decide +kernel
theorem dX12_foldOf_53 : decode cX12_foldOf 53 = .ok (.aload_n 0, 1) := by decide +kernel
theorem dX12_foldOf_54 : decode cX12_foldOf 54 = .ok (.getfield 82, 3) := by decide +kernel
theorem dX12_foldOf_57 : decode cX12_foldOf 57 = .ok (.iconst 0, 1) := by decide +kernel
theorem dX12_foldOf_58 : decode cX12_foldOf 58 = .ok (.iconst 0, 1) := by decide +kernel
theorem dX12_foldOf_59 : decode cX12_foldOf 59 = .ok (.iastore, 1) := by decide +kernel
theorem dX12_foldOf_60 : decode cX12_foldOf 60 = .ok (.aload_n 0, 1) := by decide +kernel
theorem dX12_foldOf_61 : decode cX12_foldOf 61 = .ok (.getfield 85, 3) := by decide +kernel
theorem dX12_foldOf_64 : decode cX12_foldOf 64 = .ok (.iconst 0, 1) := by decide +kernel
theorem dX12_foldOf_65 : decode cX12_foldOf 65 = .ok (.iconst 0, 1) := by decide +kernel
theorem dX12_foldOf_66 : decode cX12_foldOf 66 = .ok (.iastore, 1) := by decide +kernel
theorem dX12_foldOf_67 : decode cX12_foldOf 67 = .ok (.aload_n 0, 1) := by decide +kernel
theorem dX12_foldOf_68 : decode cX12_foldOf 68 = .ok (.getfield 88, 3) := by decide +kernel
theorem dX12_foldOf_71 : decode cX12_foldOf 71 = .ok (.iconst 0, 1) := by decide +kernel
theorem dX12_foldOf_72 : decode cX12_foldOf 72 = .ok (.iconst 2, 1) := by decide +kernel
theorem dX12_foldOf_73 : decode cX12_foldOf 73 = .ok (.iastore, 1) := by decide +kernel
theorem dX12_foldOf_74 : decode cX12_foldOf 74 = .ok (.aload_n 0, 1) := by decide +kernel
theorem dX12_foldOf_75 : decode cX12_foldOf 75 = .ok (.getfield 91, 3) := by decide +kernel
theorem dX12_foldOf_78 : decode cX12_foldOf 78 = .ok (.iconst 0, 1) := by decide +kernel
theorem dX12_foldOf_79 : decode cX12_foldOf 79 = .ok (.iconst 4, 1) := by decide +kernel
theorem dX12_foldOf_80 : decode cX12_foldOf 80 = .ok (.iastore, 1) := by decide +kernel
theorem dX12_foldOf_81 : decode cX12_foldOf 81 = .ok (.iconst 1, 1) := by decide +kernel
theorem dX12_foldOf_82 : decode cX12_foldOf 82 = .ok (.istore_n 1, 1) := by decide +kernel
theorem dX12_foldOf_83 : decode cX12_foldOf 83 = .ok (.iconst 0, 1) := by decide +kernel
theorem dX12_foldOf_84 : decode cX12_foldOf 84 = .ok (.istore_n 2, 1) := by decide +kernel
theorem dX12_foldOf_85 : decode cX12_foldOf 85 = .ok (.iconst 1, 1) := by decide +kernel
theorem dX12_foldOf_86 : decode cX12_foldOf 86 = .ok (.istore_n 3, 1) := by decide +kernel
theorem dX12_foldOf_87 : decode cX12_foldOf 87 = .ok (.iload_n 3, 1) := by decide +kernel
theorem dX12_foldOf_88 : decode cX12_foldOf 88 = .ok (.ifCond .eq 116, 3) := by decide +kernel
theorem dX12_foldOf_91 : decode cX12_foldOf 91 = .ok (.iconst 0, 1) := by decide +kernel
theorem dX12_foldOf_92 : decode cX12_foldOf 92 = .ok (.istore_n 3, 1) := by decide +kernel
theorem dX12_foldOf_93 : decode cX12_foldOf 93 = .ok (.iconst 0, 1) := by decide +kernel
theorem dX12_foldOf_94 : decode cX12_foldOf 94 = .ok (.istore 4, 2) := by decide +kernel
theorem dX12_foldOf_96 : decode cX12_foldOf 96 = .ok (.iload 4, 2) := by decide +kernel
theorem dX12_foldOf_98 : decode cX12_foldOf 98 = .ok (.iconst 4, 1) := by decide +kernel
theorem dX12_foldOf_99 : decode cX12_foldOf 99 = .ok (.aload_n 0, 1) := by decide +kernel
theorem dX12_foldOf_100 : decode cX12_foldOf 100 = .ok (.getfield 127, 3) := by decide +kernel
theorem dX12_foldOf_103 : decode cX12_foldOf 103 = .ok (.imul, 1) := by decide +kernel
theorem dX12_foldOf_104 : decode cX12_foldOf 104 = .ok (.if_icmp .ge 97, 3) := by decide +kernel
theorem dX12_foldOf_107 : decode cX12_foldOf 107 = .ok (.aload_n 0, 1) := by decide +kernel
theorem dX12_foldOf_108 : decode cX12_foldOf 108 = .ok (.getfield 73, 3) := by decide +kernel
theorem dX12_foldOf_111 : decode cX12_foldOf 111 = .ok (.iload 4, 2) := by decide +kernel
theorem dX12_foldOf_113 : decode cX12_foldOf 113 = .ok (.iconst 4, 1) := by decide +kernel
theorem dX12_foldOf_114 : decode cX12_foldOf 114 = .ok (.idiv, 1) := by decide +kernel
theorem dX12_foldOf_115 : decode cX12_foldOf 115 = .ok (.iaload, 1) := by decide +kernel
theorem dX12_foldOf_116 : decode cX12_foldOf 116 = .ok (.iconst 1, 1) := by decide +kernel
theorem dX12_foldOf_117 : decode cX12_foldOf 117 = .ok (.if_icmp .ne 78, 3) := by decide +kernel
theorem dX12_foldOf_120 : decode cX12_foldOf 120 = .ok (.aload_n 0, 1) := by decide +kernel
theorem dX12_foldOf_121 : decode cX12_foldOf 121 = .ok (.iload 4, 2) := by decide +kernel
theorem dX12_foldOf_123 : decode cX12_foldOf 123 = .ok (.iconst 4, 1) := by decide +kernel
theorem dX12_foldOf_124 : decode cX12_foldOf 124 = .ok (.idiv, 1) := by decide +kernel
theorem dX12_foldOf_125 : decode cX12_foldOf 125 = .ok (.iload 4, 2) := by decide +kernel
theorem dX12_foldOf_127 : decode cX12_foldOf 127 = .ok (.iconst 4, 1) := by decide +kernel
theorem dX12_foldOf_128 : decode cX12_foldOf 128 = .ok (.irem, 1) := by decide +kernel
theorem dX12_foldOf_129 : decode cX12_foldOf 129 = .ok (.invokevirtual 269, 3) := by decide +kernel
theorem dX12_foldOf_132 : decode cX12_foldOf 132 = .ok (.ifCond .eq 63, 3) := by decide +kernel
theorem dX12_foldOf_135 : decode cX12_foldOf 135 = .ok (.aload_n 0, 1) := by decide +kernel
theorem dX12_foldOf_136 : decode cX12_foldOf 136 = .ok (.iload 4, 2) := by decide +kernel
theorem dX12_foldOf_138 : decode cX12_foldOf 138 = .ok (.iconst 4, 1) := by decide +kernel
theorem dX12_foldOf_139 : decode cX12_foldOf 139 = .ok (.idiv, 1) := by decide +kernel
theorem dX12_foldOf_140 : decode cX12_foldOf 140 = .ok (.iload 4, 2) := by decide +kernel
theorem dX12_foldOf_142 : decode cX12_foldOf 142 = .ok (.iconst 4, 1) := by decide +kernel
theorem dX12_foldOf_143 : decode cX12_foldOf 143 = .ok (.irem, 1) := by decide +kernel
theorem dX12_foldOf_144 : decode cX12_foldOf 144 = .ok (.invokevirtual 282, 3) := by decide +kernel
theorem dX12_foldOf_147 : decode cX12_foldOf 147 = .ok (.istore 5, 2) := by decide +kernel
theorem dX12_foldOf_149 : decode cX12_foldOf 149 = .ok (.iload_n 2, 1) := by decide +kernel
theorem dX12_foldOf_150 : decode cX12_foldOf 150 = .ok (.ifCond .ne 9, 3) := by decide +kernel
theorem dX12_foldOf_153 : decode cX12_foldOf 153 = .ok (.iload 5, 2) := by decide +kernel
theorem dX12_foldOf_155 : decode cX12_foldOf 155 = .ok (.iconst 2, 1) := by decide +kernel
theorem dX12_foldOf_156 : decode cX12_foldOf 156 = .ok (.if_icmp .ne 7, 3) := by decide +kernel
theorem dX12_foldOf_159 : decode cX12_foldOf 159 = .ok (.iconst 1, 1) := by decide +kernel
theorem dX12_foldOf_160 : decode cX12_foldOf 160 = .ok (.goto 4, 3) := by decide +kernel
theorem dX12_foldOf_163 : decode cX12_foldOf 163 = .ok (.iconst 0, 1) := by decide +kernel
theorem dX12_foldOf_164 : decode cX12_foldOf 164 = .ok (.istore_n 2, 1) := by decide +kernel
theorem dX12_foldOf_165 : decode cX12_foldOf 165 = .ok (.iload_n 1, 1) := by decide +kernel
theorem dX12_foldOf_166 : decode cX12_foldOf 166 = .ok (.iload 5, 2) := by decide +kernel
theorem dX12_foldOf_168 : decode cX12_foldOf 168 = .ok (.iconst 1, 1) := by decide +kernel
theorem dX12_foldOf_169 : decode cX12_foldOf 169 = .ok (.if_icmp .ne 7, 3) := by decide +kernel
theorem dX12_foldOf_172 : decode cX12_foldOf 172 = .ok (.iconst 1, 1) := by decide +kernel
theorem dX12_foldOf_173 : decode cX12_foldOf 173 = .ok (.goto 4, 3) := by decide +kernel
theorem dX12_foldOf_176 : decode cX12_foldOf 176 = .ok (.iconst 0, 1) := by decide +kernel
theorem dX12_foldOf_177 : decode cX12_foldOf 177 = .ok (.iadd, 1) := by decide +kernel
theorem dX12_foldOf_178 : decode cX12_foldOf 178 = .ok (.istore_n 1, 1) := by decide +kernel
theorem dX12_foldOf_179 : decode cX12_foldOf 179 = .ok (.iload_n 3, 1) := by decide +kernel
theorem dX12_foldOf_180 : decode cX12_foldOf 180 = .ok (.ifCond .ne 9, 3) := by decide +kernel
theorem dX12_foldOf_183 : decode cX12_foldOf 183 = .ok (.iload 5, 2) := by decide +kernel
theorem dX12_foldOf_185 : decode cX12_foldOf 185 = .ok (.iconst 1, 1) := by decide +kernel
theorem dX12_foldOf_186 : decode cX12_foldOf 186 = .ok (.if_icmp .ne 7, 3) := by decide +kernel
theorem dX12_foldOf_189 : decode cX12_foldOf 189 = .ok (.iconst 1, 1) := by decide +kernel
theorem dX12_foldOf_190 : decode cX12_foldOf 190 = .ok (.goto 4, 3) := by decide +kernel
theorem dX12_foldOf_193 : decode cX12_foldOf 193 = .ok (.iconst 0, 1) := by decide +kernel
theorem dX12_foldOf_194 : decode cX12_foldOf 194 = .ok (.istore_n 3, 1) := by decide +kernel
theorem dX12_foldOf_195 : decode cX12_foldOf 195 = .ok (.iinc 4 1, 3) := by decide +kernel
theorem dX12_foldOf_198 : decode cX12_foldOf 198 = .ok (.goto (-102), 3) := by decide +kernel
theorem dX12_foldOf_201 : decode cX12_foldOf 201 = .ok (.goto (-114), 3) := by decide +kernel
theorem dX12_foldOf_204 : decode cX12_foldOf 204 = .ok (.iload_n 1, 1) := by decide +kernel
theorem dX12_foldOf_205 : decode cX12_foldOf 205 = .ok (.aload_n 0, 1) := by decide +kernel
theorem dX12_foldOf_206 : decode cX12_foldOf 206 = .ok (.getfield 127, 3) := by decide +kernel
theorem dX12_foldOf_209 : decode cX12_foldOf 209 = .ok (.if_icmp .ge 5, 3) := by decide +kernel
theorem dX12_foldOf_212 : decode cX12_foldOf 212 = .ok (.iconst 1, 1) := by decide +kernel
theorem dX12_foldOf_213 : decode cX12_foldOf 213 = .ok (.ireturn, 1) := by decide +kernel
theorem dX12_foldOf_214 : decode cX12_foldOf 214 = .ok (.iload_n 2, 1) := by decide +kernel
theorem dX12_foldOf_215 : decode cX12_foldOf 215 = .ok (.ifCond .eq 5, 3) := by decide +kernel
theorem dX12_foldOf_218 : decode cX12_foldOf 218 = .ok (.iconst 2, 1) := by decide +kernel
theorem dX12_foldOf_219 : decode cX12_foldOf 219 = .ok (.ireturn, 1) := by decide +kernel
theorem dX12_foldOf_220 : decode cX12_foldOf 220 = .ok (.iconst 0, 1) := by decide +kernel
theorem dX12_foldOf_221 : decode cX12_foldOf 221 = .ok (.istore 4, 2) := by decide +kernel
theorem dX12_foldOf_223 : decode cX12_foldOf 223 = .ok (.iload 4, 2) := by decide +kernel
theorem dX12_foldOf_225 : decode cX12_foldOf 225 = .ok (.aload_n 0, 1) := by decide +kernel
theorem dX12_foldOf_226 : decode cX12_foldOf 226 = .ok (.getfield 127, 3) := by decide +kernel
theorem dX12_foldOf_229 : decode cX12_foldOf 229 = .ok (.if_icmp .ge 78, 3) := by decide +kernel
theorem dX12_foldOf_232 : decode cX12_foldOf 232 = .ok (.iconst 0, 1) := by decide +kernel
theorem dX12_foldOf_233 : decode cX12_foldOf 233 = .ok (.istore 5, 2) := by decide +kernel
theorem dX12_foldOf_235 : decode cX12_foldOf 235 = .ok (.iload 5, 2) := by decide +kernel
theorem dX12_foldOf_237 : decode cX12_foldOf 237 = .ok (.iload 4, 2) := by decide +kernel
theorem dX12_foldOf_239 : decode cX12_foldOf 239 = .ok (.if_icmp .ge 62, 3) := by decide +kernel
theorem dX12_foldOf_242 : decode cX12_foldOf 242 = .ok (.aload_n 0, 1) := by decide +kernel
theorem dX12_foldOf_243 : decode cX12_foldOf 243 = .ok (.getfield 76, 3) := by decide +kernel
theorem dX12_foldOf_246 : decode cX12_foldOf 246 = .ok (.iload 4, 2) := by decide +kernel
theorem dX12_foldOf_248 : decode cX12_foldOf 248 = .ok (.iaload, 1) := by decide +kernel
theorem dX12_foldOf_249 : decode cX12_foldOf 249 = .ok (.aload_n 0, 1) := by decide +kernel
theorem dX12_foldOf_250 : decode cX12_foldOf 250 = .ok (.getfield 76, 3) := by decide +kernel
theorem dX12_foldOf_253 : decode cX12_foldOf 253 = .ok (.iload 5, 2) := by decide +kernel
theorem dX12_foldOf_255 : decode cX12_foldOf 255 = .ok (.iaload, 1) := by decide +kernel
theorem dX12_foldOf_256 : decode cX12_foldOf 256 = .ok (.if_icmp .ne 39, 3) := by decide +kernel
theorem dX12_foldOf_259 : decode cX12_foldOf 259 = .ok (.aload_n 0, 1) := by decide +kernel
theorem dX12_foldOf_260 : decode cX12_foldOf 260 = .ok (.getfield 79, 3) := by decide +kernel
theorem dX12_foldOf_263 : decode cX12_foldOf 263 = .ok (.iload 4, 2) := by decide +kernel
theorem dX12_foldOf_265 : decode cX12_foldOf 265 = .ok (.iaload, 1) := by decide +kernel
theorem dX12_foldOf_266 : decode cX12_foldOf 266 = .ok (.aload_n 0, 1) := by decide +kernel
theorem dX12_foldOf_267 : decode cX12_foldOf 267 = .ok (.getfield 79, 3) := by decide +kernel
theorem dX12_foldOf_270 : decode cX12_foldOf 270 = .ok (.iload 5, 2) := by decide +kernel
theorem dX12_foldOf_272 : decode cX12_foldOf 272 = .ok (.iaload, 1) := by decide +kernel
theorem dX12_foldOf_273 : decode cX12_foldOf 273 = .ok (.if_icmp .ne 22, 3) := by decide +kernel
theorem dX12_foldOf_276 : decode cX12_foldOf 276 = .ok (.aload_n 0, 1) := by decide +kernel
theorem dX12_foldOf_277 : decode cX12_foldOf 277 = .ok (.getfield 82, 3) := by decide +kernel
theorem dX12_foldOf_280 : decode cX12_foldOf 280 = .ok (.iload 4, 2) := by decide +kernel
theorem dX12_foldOf_282 : decode cX12_foldOf 282 = .ok (.iaload, 1) := by decide +kernel
theorem dX12_foldOf_283 : decode cX12_foldOf 283 = .ok (.aload_n 0, 1) := by decide +kernel
theorem dX12_foldOf_284 : decode cX12_foldOf 284 = .ok (.getfield 82, 3) := by decide +kernel
theorem dX12_foldOf_287 : decode cX12_foldOf 287 = .ok (.iload 5, 2) := by decide +kernel
theorem dX12_foldOf_289 : decode cX12_foldOf 289 = .ok (.iaload, 1) := by decide +kernel
theorem dX12_foldOf_290 : decode cX12_foldOf 290 = .ok (.if_icmp .ne 5, 3) := by decide +kernel
theorem dX12_foldOf_293 : decode cX12_foldOf 293 = .ok (.iconst 3, 1) := by decide +kernel
theorem dX12_foldOf_294 : decode cX12_foldOf 294 = .ok (.ireturn, 1) := by decide +kernel
theorem dX12_foldOf_295 : decode cX12_foldOf 295 = .ok (.iinc 5 1, 3) := by decide +kernel
theorem dX12_foldOf_298 : decode cX12_foldOf 298 = .ok (.goto (-63), 3) := by decide +kernel
theorem dX12_foldOf_301 : decode cX12_foldOf 301 = .ok (.iinc 4 1, 3) := by decide +kernel
theorem dX12_foldOf_304 : decode cX12_foldOf 304 = .ok (.goto (-81), 3) := by decide +kernel
theorem dX12_foldOf_307 : decode cX12_foldOf 307 = .ok (.iconst 0, 1) := by decide +kernel
theorem dX12_foldOf_308 : decode cX12_foldOf 308 = .ok (.ireturn, 1) := by decide +kernel
theorem dX12_fold_0 : decode cX12_fold 0 = .ok (.aload_n 0, 1) := by decide +kernel
theorem dX12_fold_1 : decode cX12_fold 1 = .ok (.iconst 0, 1) := by decide +kernel
theorem dX12_fold_2 : decode cX12_fold 2 = .ok (.putfield 113, 3) := by decide +kernel
theorem dX12_fold_5 : decode cX12_fold 5 = .ok (.aload_n 0, 1) := by decide +kernel
theorem dX12_fold_6 : decode cX12_fold 6 = .ok (.invokevirtual 285, 3) := by decide +kernel
theorem dX12_fold_9 : decode cX12_fold 9 = .ok (.ireturn, 1) := by decide +kernel
theorem dX12_where_0 : decode cX12_where 0 = .ok (.aload_n 0, 1) := by decide +kernel
theorem dX12_where_1 : decode cX12_where 1 = .ok (.iconst 0, 1) := by decide +kernel
theorem dX12_where_2 : decode cX12_where 2 = .ok (.putfield 113, 3) := by decide +kernel
theorem dX12_where_5 : decode cX12_where 5 = .ok (.iload_n 1, 1) := by decide +kernel
theorem dX12_where_6 : decode cX12_where 6 = .ok (.iconst 0, 1) := by decide +kernel
theorem dX12_where_7 : decode cX12_where 7 = .ok (.aload_n 0, 1) := by decide +kernel
theorem dX12_where_8 : decode cX12_where 8 = .ok (.getfield 127, 3) := by decide +kernel
theorem dX12_where_11 : decode cX12_where 11 = .ok (.iconst 1, 1) := by decide +kernel
theorem dX12_where_12 : decode cX12_where 12 = .ok (.isub, 1) := by decide +kernel
theorem dX12_where_13 : decode cX12_where 13 = .ok (.invokestatic 139, 3) := by decide +kernel
theorem dX12_where_16 : decode cX12_where 16 = .ok (.ifCond .eq 12, 3) := by decide +kernel
theorem dX12_where_19 : decode cX12_where 19 = .ok (.iload_n 2, 1) := by decide +kernel
theorem dX12_where_20 : decode cX12_where 20 = .ok (.iconst 0, 1) := by decide +kernel
theorem dX12_where_21 : decode cX12_where 21 = .ok (.iconst 4, 1) := by decide +kernel
theorem dX12_where_22 : decode cX12_where 22 = .ok (.invokestatic 139, 3) := by decide +kernel
theorem dX12_where_25 : decode cX12_where 25 = .ok (.ifCond .ne 6, 3) := by decide +kernel
theorem dX12_where_28 : decode cX12_where 28 = .ok (.bipush (-3), 2) := by decide +kernel
theorem dX12_where_30 : decode cX12_where 30 = .ok (.ireturn, 1) := by decide +kernel
theorem dX12_where_31 : decode cX12_where 31 = .ok (.aload_n 0, 1) := by decide +kernel
theorem dX12_where_32 : decode cX12_where 32 = .ok (.invokevirtual 285, 3) := by decide +kernel
theorem dX12_where_35 : decode cX12_where 35 = .ok (.ifCond .eq 6, 3) := by decide +kernel
theorem dX12_where_38 : decode cX12_where 38 = .ok (.bipush (-4), 2) := by decide +kernel
theorem dX12_where_40 : decode cX12_where 40 = .ok (.ireturn, 1) := by decide +kernel
theorem dX12_where_41 : decode cX12_where 41 = .ok (.iload_n 2, 1) := by decide +kernel
theorem dX12_where_42 : decode cX12_where 42 = .ok (.ifCond .ne 12, 3) := by decide +kernel
theorem dX12_where_45 : decode cX12_where 45 = .ok (.aload_n 0, 1) := by decide +kernel
theorem dX12_where_46 : decode cX12_where 46 = .ok (.getfield 76, 3) := by decide +kernel
theorem dX12_where_49 : decode cX12_where 49 = .ok (.iload_n 1, 1) := by decide +kernel
theorem dX12_where_50 : decode cX12_where 50 = .ok (.iaload, 1) := by decide +kernel
theorem dX12_where_51 : decode cX12_where 51 = .ok (.goto 51, 3) := by decide +kernel
theorem dX12_where_54 : decode cX12_where 54 = .ok (.iload_n 2, 1) := by decide +kernel
theorem dX12_where_55 : decode cX12_where 55 = .ok (.iconst 1, 1) := by decide +kernel
theorem dX12_where_56 : decode cX12_where 56 = .ok (.if_icmp .ne 12, 3) := by decide +kernel
theorem dX12_where_59 : decode cX12_where 59 = .ok (.aload_n 0, 1) := by decide +kernel
theorem dX12_where_60 : decode cX12_where 60 = .ok (.getfield 79, 3) := by decide +kernel
theorem dX12_where_63 : decode cX12_where 63 = .ok (.iload_n 1, 1) := by decide +kernel
theorem dX12_where_64 : decode cX12_where 64 = .ok (.iaload, 1) := by decide +kernel
theorem dX12_where_65 : decode cX12_where 65 = .ok (.goto 37, 3) := by decide +kernel
theorem dX12_where_68 : decode cX12_where 68 = .ok (.iload_n 2, 1) := by decide +kernel
theorem dX12_where_69 : decode cX12_where 69 = .ok (.iconst 2, 1) := by decide +kernel
theorem dX12_where_70 : decode cX12_where 70 = .ok (.if_icmp .ne 12, 3) := by decide +kernel
theorem dX12_where_73 : decode cX12_where 73 = .ok (.aload_n 0, 1) := by decide +kernel
theorem dX12_where_74 : decode cX12_where 74 = .ok (.getfield 82, 3) := by decide +kernel
theorem dX12_where_77 : decode cX12_where 77 = .ok (.iload_n 1, 1) := by decide +kernel
theorem dX12_where_78 : decode cX12_where 78 = .ok (.iaload, 1) := by decide +kernel
theorem dX12_where_79 : decode cX12_where 79 = .ok (.goto 23, 3) := by decide +kernel
theorem dX12_where_82 : decode cX12_where 82 = .ok (.iload_n 2, 1) := by decide +kernel
theorem dX12_where_83 : decode cX12_where 83 = .ok (.iconst 3, 1) := by decide +kernel
theorem dX12_where_84 : decode cX12_where 84 = .ok (.if_icmp .ne 12, 3) := by decide +kernel
theorem dX12_where_87 : decode cX12_where 87 = .ok (.aload_n 0, 1) := by decide +kernel
theorem dX12_where_88 : decode cX12_where 88 = .ok (.getfield 91, 3) := by decide +kernel
theorem dX12_where_91 : decode cX12_where 91 = .ok (.iload_n 1, 1) := by decide +kernel
theorem dX12_where_92 : decode cX12_where 92 = .ok (.iaload, 1) := by decide +kernel
theorem dX12_where_93 : decode cX12_where 93 = .ok (.goto 9, 3) := by decide +kernel
theorem dX12_where_96 : decode cX12_where 96 = .ok (.aload_n 0, 1) := by decide +kernel
theorem dX12_where_97 : decode cX12_where 97 = .ok (.getfield 85, 3) := by decide +kernel
theorem dX12_where_100 : decode cX12_where 100 = .ok (.iload_n 1, 1) := by decide +kernel
theorem dX12_where_101 : decode cX12_where 101 = .ok (.iaload, 1) := by decide +kernel
theorem dX12_where_102 : decode cX12_where 102 = .ok (.istore_n 3, 1) := by decide +kernel
theorem dX12_where_103 : decode cX12_where 103 = .ok (.iload_n 3, 1) := by decide +kernel
theorem dX12_where_104 : decode cX12_where 104 = .ok (.ifCond .ge 11, 3) := by decide +kernel
theorem dX12_where_107 : decode cX12_where 107 = .ok (.iload_n 3, 1) := by decide +kernel
theorem dX12_where_108 : decode cX12_where 108 = .ok (.sipush 1000, 3) := by decide +kernel
theorem dX12_where_111 : decode cX12_where 111 = .ok (.iadd, 1) := by decide +kernel
theorem dX12_where_112 : decode cX12_where 112 = .ok (.goto 4, 3) := by decide +kernel
theorem dX12_where_115 : decode cX12_where 115 = .ok (.iload_n 3, 1) := by decide +kernel
theorem dX12_where_116 : decode cX12_where 116 = .ok (.ireturn, 1) := by decide +kernel
theorem dX12_isOn_0 : decode cX12_isOn 0 = .ok (.aload_n 0, 1) := by decide +kernel
theorem dX12_isOn_1 : decode cX12_isOn 1 = .ok (.iload_n 1, 1) := by decide +kernel
theorem dX12_isOn_2 : decode cX12_isOn 2 = .ok (.iload_n 2, 1) := by decide +kernel
theorem dX12_isOn_3 : decode cX12_isOn 3 = .ok (.invokevirtual 279, 3) := by decide +kernel
theorem dX12_isOn_6 : decode cX12_isOn 6 = .ok (.istore 5, 2) := by decide +kernel
theorem dX12_isOn_8 : decode cX12_isOn 8 = .ok (.aload_n 0, 1) := by decide +kernel
theorem dX12_isOn_9 : decode cX12_isOn 9 = .ok (.iload_n 3, 1) := by decide +kernel
theorem dX12_isOn_10 : decode cX12_isOn 10 = .ok (.iload 4, 2) := by decide +kernel
theorem dX12_isOn_12 : decode cX12_isOn 12 = .ok (.invokevirtual 279, 3) := by decide +kernel
theorem dX12_isOn_15 : decode cX12_isOn 15 = .ok (.istore 6, 2) := by decide +kernel
theorem dX12_isOn_17 : decode cX12_isOn 17 = .ok (.aload_n 0, 1) := by decide +kernel
theorem dX12_isOn_18 : decode cX12_isOn 18 = .ok (.getfield 76, 3) := by decide +kernel
theorem dX12_isOn_21 : decode cX12_isOn 21 = .ok (.iload_n 1, 1) := by decide +kernel
theorem dX12_isOn_22 : decode cX12_isOn 22 = .ok (.iaload, 1) := by decide +kernel
theorem dX12_isOn_23 : decode cX12_isOn 23 = .ok (.iload 5, 2) := by decide +kernel
theorem dX12_isOn_25 : decode cX12_isOn 25 = .ok (.iconst 0, 1) := by decide +kernel
theorem dX12_isOn_26 : decode cX12_isOn 26 = .ok (.invokestatic 154, 3) := by decide +kernel
theorem dX12_isOn_29 : decode cX12_isOn 29 = .ok (.iadd, 1) := by decide +kernel
theorem dX12_isOn_30 : decode cX12_isOn 30 = .ok (.aload_n 0, 1) := by decide +kernel
theorem dX12_isOn_31 : decode cX12_isOn 31 = .ok (.getfield 76, 3) := by decide +kernel
theorem dX12_isOn_34 : decode cX12_isOn 34 = .ok (.iload_n 3, 1) := by decide +kernel
theorem dX12_isOn_35 : decode cX12_isOn 35 = .ok (.iaload, 1) := by decide +kernel
theorem dX12_isOn_36 : decode cX12_isOn 36 = .ok (.iload 6, 2) := by decide +kernel
theorem dX12_isOn_38 : decode cX12_isOn 38 = .ok (.iconst 0, 1) := by decide +kernel
theorem dX12_isOn_39 : decode cX12_isOn 39 = .ok (.invokestatic 154, 3) := by decide +kernel
theorem dX12_isOn_42 : decode cX12_isOn 42 = .ok (.iadd, 1) := by decide +kernel
theorem dX12_isOn_43 : decode cX12_isOn 43 = .ok (.if_icmp .ne 36, 3) := by decide +kernel
theorem dX12_isOn_46 : decode cX12_isOn 46 = .ok (.aload_n 0, 1) := by decide +kernel
theorem dX12_isOn_47 : decode cX12_isOn 47 = .ok (.getfield 79, 3) := by decide +kernel
theorem dX12_isOn_50 : decode cX12_isOn 50 = .ok (.iload_n 1, 1) := by decide +kernel
theorem dX12_isOn_51 : decode cX12_isOn 51 = .ok (.iaload, 1) := by decide +kernel
theorem dX12_isOn_52 : decode cX12_isOn 52 = .ok (.iload 5, 2) := by decide +kernel
theorem dX12_isOn_54 : decode cX12_isOn 54 = .ok (.iconst 1, 1) := by decide +kernel
theorem dX12_isOn_55 : decode cX12_isOn 55 = .ok (.invokestatic 154, 3) := by decide +kernel
theorem dX12_isOn_58 : decode cX12_isOn 58 = .ok (.iadd, 1) := by decide +kernel
theorem dX12_isOn_59 : decode cX12_isOn 59 = .ok (.aload_n 0, 1) := by decide +kernel
theorem dX12_isOn_60 : decode cX12_isOn 60 = .ok (.getfield 79, 3) := by decide +kernel
theorem dX12_isOn_63 : decode cX12_isOn 63 = .ok (.iload_n 3, 1) := by decide +kernel
theorem dX12_isOn_64 : decode cX12_isOn 64 = .ok (.iaload, 1) := by decide +kernel
theorem dX12_isOn_65 : decode cX12_isOn 65 = .ok (.iload 6, 2) := by decide +kernel
theorem dX12_isOn_67 : decode cX12_isOn 67 = .ok (.iconst 1, 1) := by decide +kernel
theorem dX12_isOn_68 : decode cX12_isOn 68 = .ok (.invokestatic 154, 3) := by decide +kernel
theorem dX12_isOn_71 : decode cX12_isOn 71 = .ok (.iadd, 1) := by decide +kernel
theorem dX12_isOn_72 : decode cX12_isOn 72 = .ok (.if_icmp .ne 7, 3) := by decide +kernel
theorem dX12_isOn_75 : decode cX12_isOn 75 = .ok (.iconst 1, 1) := by decide +kernel
theorem dX12_isOn_76 : decode cX12_isOn 76 = .ok (.goto 4, 3) := by decide +kernel
theorem dX12_isOn_79 : decode cX12_isOn 79 = .ok (.iconst 0, 1) := by decide +kernel
theorem dX12_isOn_80 : decode cX12_isOn 80 = .ok (.istore 7, 2) := by decide +kernel
theorem dX12_isOn_82 : decode cX12_isOn 82 = .ok (.iload 7, 2) := by decide +kernel
theorem dX12_isOn_84 : decode cX12_isOn 84 = .ok (.ifCond .eq 36, 3) := by decide +kernel
theorem dX12_isOn_87 : decode cX12_isOn 87 = .ok (.aload_n 0, 1) := by decide +kernel
theorem dX12_isOn_88 : decode cX12_isOn 88 = .ok (.getfield 82, 3) := by decide +kernel
theorem dX12_isOn_91 : decode cX12_isOn 91 = .ok (.iload_n 1, 1) := by decide +kernel
theorem dX12_isOn_92 : decode cX12_isOn 92 = .ok (.iaload, 1) := by decide +kernel
theorem dX12_isOn_93 : decode cX12_isOn 93 = .ok (.iload 5, 2) := by decide +kernel
theorem dX12_isOn_95 : decode cX12_isOn 95 = .ok (.iconst 2, 1) := by decide +kernel
theorem dX12_isOn_96 : decode cX12_isOn 96 = .ok (.invokestatic 154, 3) := by decide +kernel
theorem dX12_isOn_99 : decode cX12_isOn 99 = .ok (.iadd, 1) := by decide +kernel
theorem dX12_isOn_100 : decode cX12_isOn 100 = .ok (.aload_n 0, 1) := by decide +kernel
theorem dX12_isOn_101 : decode cX12_isOn 101 = .ok (.getfield 82, 3) := by decide +kernel
theorem dX12_isOn_104 : decode cX12_isOn 104 = .ok (.iload_n 3, 1) := by decide +kernel
theorem dX12_isOn_105 : decode cX12_isOn 105 = .ok (.iaload, 1) := by decide +kernel
theorem dX12_isOn_106 : decode cX12_isOn 106 = .ok (.iload 6, 2) := by decide +kernel
theorem dX12_isOn_108 : decode cX12_isOn 108 = .ok (.iconst 2, 1) := by decide +kernel
theorem dX12_isOn_109 : decode cX12_isOn 109 = .ok (.invokestatic 154, 3) := by decide +kernel
theorem dX12_isOn_112 : decode cX12_isOn 112 = .ok (.iadd, 1) := by decide +kernel
theorem dX12_isOn_113 : decode cX12_isOn 113 = .ok (.if_icmp .ne 7, 3) := by decide +kernel
theorem dX12_isOn_116 : decode cX12_isOn 116 = .ok (.iconst 1, 1) := by decide +kernel
theorem dX12_isOn_117 : decode cX12_isOn 117 = .ok (.goto 4, 3) := by decide +kernel
theorem dX12_isOn_120 : decode cX12_isOn 120 = .ok (.iconst 0, 1) := by decide +kernel
theorem dX12_isOn_121 : decode cX12_isOn 121 = .ok (.istore 7, 2) := by decide +kernel
theorem dX12_isOn_123 : decode cX12_isOn 123 = .ok (.iload 7, 2) := by decide +kernel
theorem dX12_isOn_125 : decode cX12_isOn 125 = .ok (.ifCond .eq 35, 3) := by decide +kernel
theorem dX12_isOn_128 : decode cX12_isOn 128 = .ok (.aload_n 0, 1) := by decide +kernel
theorem dX12_isOn_129 : decode cX12_isOn 129 = .ok (.iload_n 1, 1) := by decide +kernel
theorem dX12_isOn_130 : decode cX12_isOn 130 = .ok (.iload_n 2, 1) := by decide +kernel
theorem dX12_isOn_131 : decode cX12_isOn 131 = .ok (.iconst 1, 1) := by decide +kernel
theorem dX12_isOn_132 : decode cX12_isOn 132 = .ok (.iadd, 1) := by decide +kernel
theorem dX12_isOn_133 : decode cX12_isOn 133 = .ok (.iconst 4, 1) := by decide +kernel
theorem dX12_isOn_134 : decode cX12_isOn 134 = .ok (.irem, 1) := by decide +kernel
theorem dX12_isOn_135 : decode cX12_isOn 135 = .ok (.invokevirtual 279, 3) := by decide +kernel
theorem dX12_isOn_138 : decode cX12_isOn 138 = .ok (.iconst 2, 1) := by decide +kernel
theorem dX12_isOn_139 : decode cX12_isOn 139 = .ok (.idiv, 1) := by decide +kernel
theorem dX12_isOn_140 : decode cX12_isOn 140 = .ok (.aload_n 0, 1) := by decide +kernel
theorem dX12_isOn_141 : decode cX12_isOn 141 = .ok (.iload_n 3, 1) := by decide +kernel
theorem dX12_isOn_142 : decode cX12_isOn 142 = .ok (.iload 4, 2) := by decide +kernel
theorem dX12_isOn_144 : decode cX12_isOn 144 = .ok (.iconst 1, 1) := by decide +kernel
theorem dX12_isOn_145 : decode cX12_isOn 145 = .ok (.iadd, 1) := by decide +kernel
theorem dX12_isOn_146 : decode cX12_isOn 146 = .ok (.iconst 4, 1) := by decide +kernel
theorem dX12_isOn_147 : decode cX12_isOn 147 = .ok (.irem, 1) := by decide +kernel
theorem dX12_isOn_148 : decode cX12_isOn 148 = .ok (.invokevirtual 279, 3) := by decide +kernel
theorem dX12_isOn_151 : decode cX12_isOn 151 = .ok (.iconst 2, 1) := by decide +kernel
theorem dX12_isOn_152 : decode cX12_isOn 152 = .ok (.idiv, 1) := by decide +kernel
theorem dX12_isOn_153 : decode cX12_isOn 153 = .ok (.if_icmp .ne 7, 3) := by decide +kernel
theorem dX12_isOn_156 : decode cX12_isOn 156 = .ok (.iconst 1, 1) := by decide +kernel
theorem dX12_isOn_157 : decode cX12_isOn 157 = .ok (.goto 4, 3) := by decide +kernel
theorem dX12_isOn_160 : decode cX12_isOn 160 = .ok (.iconst 0, 1) := by decide +kernel
theorem dX12_isOn_161 : decode cX12_isOn 161 = .ok (.ireturn, 1) := by decide +kernel
theorem dX12_closed_0 : decode cX12_closed 0 = .ok (.aload_n 0, 1) := by decide +kernel
theorem dX12_closed_1 : decode cX12_closed 1 = .ok (.iconst 0, 1) := by decide +kernel
theorem dX12_closed_2 : decode cX12_closed 2 = .ok (.putfield 113, 3) := by decide +kernel
theorem dX12_closed_5 : decode cX12_closed 5 = .ok (.aload_n 0, 1) := by decide +kernel
theorem dX12_closed_6 : decode cX12_closed 6 = .ok (.invokevirtual 285, 3) := by decide +kernel
theorem dX12_closed_9 : decode cX12_closed 9 = .ok (.ifCond .eq 5, 3) := by decide +kernel
theorem dX12_closed_12 : decode cX12_closed 12 = .ok (.iconst 0, 1) := by decide +kernel
theorem dX12_closed_13 : decode cX12_closed 13 = .ok (.ireturn, 1) := by decide +kernel
theorem dX12_closed_14 : decode cX12_closed 14 = .ok (.iconst 0, 1) := by decide +kernel
theorem dX12_closed_15 : decode cX12_closed 15 = .ok (.istore_n 1, 1) := by decide +kernel
theorem dX12_closed_16 : decode cX12_closed 16 = .ok (.iload_n 1, 1) := by decide +kernel
theorem dX12_closed_17 : decode cX12_closed 17 = .ok (.iconst 4, 1) := by decide +kernel
theorem dX12_closed_18 : decode cX12_closed 18 = .ok (.aload_n 0, 1) := by decide +kernel
theorem dX12_closed_19 : decode cX12_closed 19 = .ok (.getfield 127, 3) := by decide +kernel
theorem dX12_closed_22 : decode cX12_closed 22 = .ok (.imul, 1) := by decide +kernel
theorem dX12_closed_23 : decode cX12_closed 23 = .ok (.if_icmp .ge 72, 3) := by decide +kernel
theorem dX12_closed_26 : decode cX12_closed 26 = .ok (.iconst 0, 1) := by decide +kernel
theorem dX12_closed_27 : decode cX12_closed 27 = .ok (.istore_n 2, 1) := by decide +kernel
theorem dX12_closed_28 : decode cX12_closed 28 = .ok (.iconst 0, 1) := by decide +kernel
theorem dX12_closed_29 : decode cX12_closed 29 = .ok (.istore_n 3, 1) := by decide +kernel
theorem dX12_closed_30 : decode cX12_closed 30 = .ok (.iload_n 3, 1) := by decide +kernel
theorem dX12_closed_31 : decode cX12_closed 31 = .ok (.iconst 4, 1) := by decide +kernel
theorem dX12_closed_32 : decode cX12_closed 32 = .ok (.aload_n 0, 1) := by decide +kernel
theorem dX12_closed_33 : decode cX12_closed 33 = .ok (.getfield 127, 3) := by decide +kernel
theorem dX12_closed_36 : decode cX12_closed 36 = .ok (.imul, 1) := by decide +kernel
theorem dX12_closed_37 : decode cX12_closed 37 = .ok (.if_icmp .ge 45, 3) := by decide +kernel
theorem dX12_closed_40 : decode cX12_closed 40 = .ok (.iload_n 2, 1) := by decide +kernel
theorem dX12_closed_41 : decode cX12_closed 41 = .ok (.iload_n 1, 1) := by decide +kernel
theorem dX12_closed_42 : decode cX12_closed 42 = .ok (.iconst 4, 1) := by decide +kernel
theorem dX12_closed_43 : decode cX12_closed 43 = .ok (.idiv, 1) := by decide +kernel
theorem dX12_closed_44 : decode cX12_closed 44 = .ok (.iload_n 3, 1) := by decide +kernel
theorem dX12_closed_45 : decode cX12_closed 45 = .ok (.iconst 4, 1) := by decide +kernel
theorem dX12_closed_46 : decode cX12_closed 46 = .ok (.idiv, 1) := by decide +kernel
theorem dX12_closed_47 : decode cX12_closed 47 = .ok (.if_icmp .eq 26, 3) := by decide +kernel
theorem dX12_closed_50 : decode cX12_closed 50 = .ok (.aload_n 0, 1) := by decide +kernel
theorem dX12_closed_51 : decode cX12_closed 51 = .ok (.iload_n 1, 1) := by decide +kernel
theorem dX12_closed_52 : decode cX12_closed 52 = .ok (.iconst 4, 1) := by decide +kernel
theorem dX12_closed_53 : decode cX12_closed 53 = .ok (.idiv, 1) := by decide +kernel
theorem dX12_closed_54 : decode cX12_closed 54 = .ok (.iload_n 1, 1) := by decide +kernel
theorem dX12_closed_55 : decode cX12_closed 55 = .ok (.iconst 4, 1) := by decide +kernel
theorem dX12_closed_56 : decode cX12_closed 56 = .ok (.irem, 1) := by decide +kernel
theorem dX12_closed_57 : decode cX12_closed 57 = .ok (.iload_n 3, 1) := by decide +kernel
theorem dX12_closed_58 : decode cX12_closed 58 = .ok (.iconst 4, 1) := by decide +kernel
theorem dX12_closed_59 : decode cX12_closed 59 = .ok (.idiv, 1) := by decide +kernel
theorem dX12_closed_60 : decode cX12_closed 60 = .ok (.iload_n 3, 1) := by decide +kernel
theorem dX12_closed_61 : decode cX12_closed 61 = .ok (.iconst 4, 1) := by decide +kernel
theorem dX12_closed_62 : decode cX12_closed 62 = .ok (.irem, 1) := by decide +kernel
theorem dX12_closed_63 : decode cX12_closed 63 = .ok (.invokevirtual 288, 3) := by decide +kernel
theorem dX12_closed_66 : decode cX12_closed 66 = .ok (.ifCond .eq 7, 3) := by decide +kernel
theorem dX12_closed_69 : decode cX12_closed 69 = .ok (.iconst 1, 1) := by decide +kernel
theorem dX12_closed_70 : decode cX12_closed 70 = .ok (.goto 4, 3) := by decide +kernel
theorem dX12_closed_73 : decode cX12_closed 73 = .ok (.iconst 0, 1) := by decide +kernel
theorem dX12_closed_74 : decode cX12_closed 74 = .ok (.iadd, 1) := by decide +kernel
theorem dX12_closed_75 : decode cX12_closed 75 = .ok (.istore_n 2, 1) := by decide +kernel
theorem dX12_closed_76 : decode cX12_closed 76 = .ok (.iinc 3 1, 3) := by decide +kernel
theorem dX12_closed_79 : decode cX12_closed 79 = .ok (.goto (-49), 3) := by decide +kernel
theorem dX12_closed_82 : decode cX12_closed 82 = .ok (.iload_n 2, 1) := by decide +kernel
theorem dX12_closed_83 : decode cX12_closed 83 = .ok (.iconst 1, 1) := by decide +kernel
theorem dX12_closed_84 : decode cX12_closed 84 = .ok (.if_icmp .eq 5, 3) := by decide +kernel
theorem dX12_closed_87 : decode cX12_closed 87 = .ok (.iconst 0, 1) := by decide +kernel
theorem dX12_closed_88 : decode cX12_closed 88 = .ok (.ireturn, 1) := by decide +kernel
theorem dX12_closed_89 : decode cX12_closed 89 = .ok (.iinc 1 1, 3) := by decide +kernel
theorem dX12_closed_92 : decode cX12_closed 92 = .ok (.goto (-76), 3) := by decide +kernel
theorem dX12_closed_95 : decode cX12_closed 95 = .ok (.iconst 1, 1) := by decide +kernel
theorem dX12_closed_96 : decode cX12_closed 96 = .ok (.ireturn, 1) := by decide +kernel
theorem dX12_writeForm_0 : decode cX12_writeForm 0 = .ok (.bipush 60, 2) := by decide +kernel
theorem dX12_writeForm_2 : decode cX12_writeForm 2 = .ok (.istore_n 1, 1) := by decide +kernel
theorem dX12_writeForm_3 : decode cX12_writeForm 3 = .ok (.bipush 60, 2) := by decide +kernel
theorem dX12_writeForm_5 : decode cX12_writeForm 5 = .ok (.istore_n 2, 1) := by decide +kernel
theorem dX12_writeForm_6 : decode cX12_writeForm 6 = .ok (.iconst 0, 1) := by decide +kernel
theorem dX12_writeForm_7 : decode cX12_writeForm 7 = .ok (.istore_n 3, 1) := by decide +kernel
theorem dX12_writeForm_8 : decode cX12_writeForm 8 = .ok (.iload_n 3, 1) := by decide +kernel
theorem dX12_writeForm_9 : decode cX12_writeForm 9 = .ok (.aload_n 0, 1) := by decide +kernel
theorem dX12_writeForm_10 : decode cX12_writeForm 10 = .ok (.getfield 127, 3) := by decide +kernel
theorem dX12_writeForm_13 : decode cX12_writeForm 13 = .ok (.if_icmp .ge 51, 3) := by decide +kernel
theorem dX12_writeForm_16 : decode cX12_writeForm 16 = .ok (.aload_n 0, 1) := by decide +kernel
theorem dX12_writeForm_17 : decode cX12_writeForm 17 = .ok (.getfield 19, 3) := by decide +kernel
theorem dX12_writeForm_20 : decode cX12_writeForm 20 = .ok (.iload_n 3, 1) := by decide +kernel
theorem dX12_writeForm_21 : decode cX12_writeForm 21 = .ok (.iaload, 1) := by decide +kernel
theorem dX12_writeForm_22 : decode cX12_writeForm 22 = .ok (.iload_n 1, 1) := by decide +kernel
theorem dX12_writeForm_23 : decode cX12_writeForm 23 = .ok (.if_icmp .ge 12, 3) := by decide +kernel
theorem dX12_writeForm_26 : decode cX12_writeForm 26 = .ok (.aload_n 0, 1) := by decide +kernel
theorem dX12_writeForm_27 : decode cX12_writeForm 27 = .ok (.getfield 19, 3) := by decide +kernel
theorem dX12_writeForm_30 : decode cX12_writeForm 30 = .ok (.iload_n 3, 1) := by decide +kernel
theorem dX12_writeForm_31 : decode cX12_writeForm 31 = .ok (.iaload, 1) := by decide +kernel
theorem dX12_writeForm_32 : decode cX12_writeForm 32 = .ok (.goto 4, 3) := by decide +kernel
theorem dX12_writeForm_35 : decode cX12_writeForm 35 = .ok (.iload_n 1, 1) := by decide +kernel
theorem dX12_writeForm_36 : decode cX12_writeForm 36 = .ok (.istore_n 1, 1) := by decide +kernel
theorem dX12_writeForm_37 : decode cX12_writeForm 37 = .ok (.aload_n 0, 1) := by decide +kernel
theorem dX12_writeForm_38 : decode cX12_writeForm 38 = .ok (.getfield 22, 3) := by decide +kernel
theorem dX12_writeForm_41 : decode cX12_writeForm 41 = .ok (.iload_n 3, 1) := by decide +kernel
theorem dX12_writeForm_42 : decode cX12_writeForm 42 = .ok (.iaload, 1) := by decide +kernel
theorem dX12_writeForm_43 : decode cX12_writeForm 43 = .ok (.iload_n 2, 1) := by decide +kernel
theorem dX12_writeForm_44 : decode cX12_writeForm 44 = .ok (.if_icmp .ge 12, 3) := by decide +kernel
theorem dX12_writeForm_47 : decode cX12_writeForm 47 = .ok (.aload_n 0, 1) := by decide +kernel
theorem dX12_writeForm_48 : decode cX12_writeForm 48 = .ok (.getfield 22, 3) := by decide +kernel
theorem dX12_writeForm_51 : decode cX12_writeForm 51 = .ok (.iload_n 3, 1) := by decide +kernel
theorem dX12_writeForm_52 : decode cX12_writeForm 52 = .ok (.iaload, 1) := by decide +kernel
theorem dX12_writeForm_53 : decode cX12_writeForm 53 = .ok (.goto 4, 3) := by decide +kernel
theorem dX12_writeForm_56 : decode cX12_writeForm 56 = .ok (.iload_n 2, 1) := by decide +kernel
theorem dX12_writeForm_57 : decode cX12_writeForm 57 = .ok (.istore_n 2, 1) := by decide +kernel
theorem dX12_writeForm_58 : decode cX12_writeForm 58 = .ok (.iinc 3 1, 3) := by decide +kernel
theorem dX12_writeForm_61 : decode cX12_writeForm 61 = .ok (.goto (-53), 3) := by decide +kernel
theorem dX12_writeForm_64 : decode cX12_writeForm 64 = .ok (.iconst 0, 1) := by decide +kernel
theorem dX12_writeForm_65 : decode cX12_writeForm 65 = .ok (.istore_n 3, 1) := by decide +kernel
theorem dX12_writeForm_66 : decode cX12_writeForm 66 = .ok (.iload_n 3, 1) := by decide +kernel
theorem dX12_writeForm_67 : decode cX12_writeForm 67 = .ok (.aload_n 0, 1) := by decide +kernel
theorem dX12_writeForm_68 : decode cX12_writeForm 68 = .ok (.getfield 127, 3) := by decide +kernel
theorem dX12_writeForm_71 : decode cX12_writeForm 71 = .ok (.if_icmp .ge 101, 3) := by decide +kernel
theorem dX12_writeForm_74 : decode cX12_writeForm 74 = .ok (.aload_n 0, 1) := by decide +kernel
theorem dX12_writeForm_75 : decode cX12_writeForm 75 = .ok (.getfield 97, 3) := by decide +kernel
theorem dX12_writeForm_78 : decode cX12_writeForm 78 = .ok (.iconst 4, 1) := by decide +kernel
theorem dX12_writeForm_79 : decode cX12_writeForm 79 = .ok (.iload_n 3, 1) := by decide +kernel
theorem dX12_writeForm_80 : decode cX12_writeForm 80 = .ok (.imul, 1) := by decide +kernel
theorem dX12_writeForm_81 : decode cX12_writeForm 81 = .ok (.aload_n 0, 1) := by decide +kernel
theorem dX12_writeForm_82 : decode cX12_writeForm 82 = .ok (.getfield 22, 3) := by decide +kernel
theorem dX12_writeForm_85 : decode cX12_writeForm 85 = .ok (.iload_n 3, 1) := by decide +kernel
theorem dX12_writeForm_86 : decode cX12_writeForm 86 = .ok (.iaload, 1) := by decide +kernel
theorem dX12_writeForm_87 : decode cX12_writeForm 87 = .ok (.iload_n 2, 1) := by decide +kernel
theorem dX12_writeForm_88 : decode cX12_writeForm 88 = .ok (.isub, 1) := by decide +kernel
theorem dX12_writeForm_89 : decode cX12_writeForm 89 = .ok (.iastore, 1) := by decide +kernel
theorem dX12_writeForm_90 : decode cX12_writeForm 90 = .ok (.aload_n 0, 1) := by decide +kernel
theorem dX12_writeForm_91 : decode cX12_writeForm 91 = .ok (.getfield 97, 3) := by decide +kernel
theorem dX12_writeForm_94 : decode cX12_writeForm 94 = .ok (.iconst 4, 1) := by decide +kernel
theorem dX12_writeForm_95 : decode cX12_writeForm 95 = .ok (.iload_n 3, 1) := by decide +kernel
theorem dX12_writeForm_96 : decode cX12_writeForm 96 = .ok (.imul, 1) := by decide +kernel
theorem dX12_writeForm_97 : decode cX12_writeForm 97 = .ok (.iconst 1, 1) := by decide +kernel
theorem dX12_writeForm_98 : decode cX12_writeForm 98 = .ok (.iadd, 1) := by decide +kernel
theorem dX12_writeForm_99 : decode cX12_writeForm 99 = .ok (.aload_n 0, 1) := by decide +kernel
theorem dX12_writeForm_100 : decode cX12_writeForm 100 = .ok (.getfield 19, 3) := by decide +kernel
theorem dX12_writeForm_103 : decode cX12_writeForm 103 = .ok (.iload_n 3, 1) := by decide +kernel
theorem dX12_writeForm_104 : decode cX12_writeForm 104 = .ok (.iaload, 1) := by decide +kernel
theorem dX12_writeForm_105 : decode cX12_writeForm 105 = .ok (.iload_n 1, 1) := by decide +kernel
theorem dX12_writeForm_106 : decode cX12_writeForm 106 = .ok (.isub, 1) := by decide +kernel
theorem dX12_writeForm_107 : decode cX12_writeForm 107 = .ok (.iastore, 1) := by decide +kernel
theorem dX12_writeForm_108 : decode cX12_writeForm 108 = .ok (.aload_n 0, 1) := by decide +kernel
theorem dX12_writeForm_109 : decode cX12_writeForm 109 = .ok (.getfield 97, 3) := by decide +kernel
theorem dX12_writeForm_112 : decode cX12_writeForm 112 = .ok (.iconst 4, 1) := by decide +kernel
theorem dX12_writeForm_113 : decode cX12_writeForm 113 = .ok (.iload_n 3, 1) := by decide +kernel
theorem dX12_writeForm_114 : decode cX12_writeForm 114 = .ok (.imul, 1) := by decide +kernel
theorem dX12_writeForm_115 : decode cX12_writeForm 115 = .ok (.iconst 2, 1) := by decide +kernel
theorem dX12_writeForm_116 : decode cX12_writeForm 116 = .ok (.iadd, 1) := by decide +kernel
theorem dX12_writeForm_117 : decode cX12_writeForm 117 = .ok (.aload_n 0, 1) := by decide +kernel
theorem dX12_writeForm_118 : decode cX12_writeForm 118 = .ok (.getfield 25, 3) := by decide +kernel
theorem dX12_writeForm_121 : decode cX12_writeForm 121 = .ok (.iload_n 3, 1) := by decide +kernel
theorem dX12_writeForm_122 : decode cX12_writeForm 122 = .ok (.iaload, 1) := by decide +kernel
theorem dX12_writeForm_123 : decode cX12_writeForm 123 = .ok (.ifCond .ne 7, 3) := by decide +kernel
theorem dX12_writeForm_126 : decode cX12_writeForm 126 = .ok (.iconst 0, 1) := by decide +kernel
theorem dX12_writeForm_127 : decode cX12_writeForm 127 = .ok (.goto 9, 3) := by decide +kernel
theorem dX12_writeForm_130 : decode cX12_writeForm 130 = .ok (.aload_n 0, 1) := by decide +kernel
theorem dX12_writeForm_131 : decode cX12_writeForm 131 = .ok (.getfield 25, 3) := by decide +kernel
theorem dX12_writeForm_134 : decode cX12_writeForm 134 = .ok (.iload_n 3, 1) := by decide +kernel
theorem dX12_writeForm_135 : decode cX12_writeForm 135 = .ok (.iaload, 1) := by decide +kernel
theorem dX12_writeForm_136 : decode cX12_writeForm 136 = .ok (.iastore, 1) := by decide +kernel
theorem dX12_writeForm_137 : decode cX12_writeForm 137 = .ok (.aload_n 0, 1) := by decide +kernel
theorem dX12_writeForm_138 : decode cX12_writeForm 138 = .ok (.getfield 97, 3) := by decide +kernel
theorem dX12_writeForm_141 : decode cX12_writeForm 141 = .ok (.iconst 4, 1) := by decide +kernel
theorem dX12_writeForm_142 : decode cX12_writeForm 142 = .ok (.iload_n 3, 1) := by decide +kernel
theorem dX12_writeForm_143 : decode cX12_writeForm 143 = .ok (.imul, 1) := by decide +kernel
theorem dX12_writeForm_144 : decode cX12_writeForm 144 = .ok (.iconst 3, 1) := by decide +kernel
theorem dX12_writeForm_145 : decode cX12_writeForm 145 = .ok (.iadd, 1) := by decide +kernel
theorem dX12_writeForm_146 : decode cX12_writeForm 146 = .ok (.aload_n 0, 1) := by decide +kernel
theorem dX12_writeForm_147 : decode cX12_writeForm 147 = .ok (.getfield 28, 3) := by decide +kernel
theorem dX12_writeForm_150 : decode cX12_writeForm 150 = .ok (.iload_n 3, 1) := by decide +kernel
theorem dX12_writeForm_151 : decode cX12_writeForm 151 = .ok (.iaload, 1) := by decide +kernel
theorem dX12_writeForm_152 : decode cX12_writeForm 152 = .ok (.ifCond .ne 7, 3) := by decide +kernel
theorem dX12_writeForm_155 : decode cX12_writeForm 155 = .ok (.iconst 0, 1) := by decide +kernel
theorem dX12_writeForm_156 : decode cX12_writeForm 156 = .ok (.goto 9, 3) := by decide +kernel
theorem dX12_writeForm_159 : decode cX12_writeForm 159 = .ok (.aload_n 0, 1) := by decide +kernel
theorem dX12_writeForm_160 : decode cX12_writeForm 160 = .ok (.getfield 28, 3) := by decide +kernel
theorem dX12_writeForm_163 : decode cX12_writeForm 163 = .ok (.iload_n 3, 1) := by decide +kernel
theorem dX12_writeForm_164 : decode cX12_writeForm 164 = .ok (.iaload, 1) := by decide +kernel
theorem dX12_writeForm_165 : decode cX12_writeForm 165 = .ok (.iastore, 1) := by decide +kernel
theorem dX12_writeForm_166 : decode cX12_writeForm 166 = .ok (.iinc 3 1, 3) := by decide +kernel
theorem dX12_writeForm_169 : decode cX12_writeForm 169 = .ok (.goto (-103), 3) := by decide +kernel
theorem dX12_writeForm_172 : decode cX12_writeForm 172 = .ok (.return_, 1) := by decide +kernel
theorem dX12_compare_0 : decode cX12_compare 0 = .ok (.iconst 0, 1) := by decide +kernel
theorem dX12_compare_1 : decode cX12_compare 1 = .ok (.istore_n 3, 1) := by decide +kernel
theorem dX12_compare_2 : decode cX12_compare 2 = .ok (.iload_n 3, 1) := by decide +kernel
theorem dX12_compare_3 : decode cX12_compare 3 = .ok (.iconst 4, 1) := by decide +kernel
theorem dX12_compare_4 : decode cX12_compare 4 = .ok (.aload_n 0, 1) := by decide +kernel
theorem dX12_compare_5 : decode cX12_compare 5 = .ok (.getfield 127, 3) := by decide +kernel
theorem dX12_compare_8 : decode cX12_compare 8 = .ok (.imul, 1) := by decide +kernel
theorem dX12_compare_9 : decode cX12_compare 9 = .ok (.if_icmp .ge 33, 3) := by decide +kernel
theorem dX12_compare_12 : decode cX12_compare 12 = .ok (.aload_n 1, 1) := by decide +kernel
theorem dX12_compare_13 : decode cX12_compare 13 = .ok (.iload_n 3, 1) := by decide +kernel
theorem dX12_compare_14 : decode cX12_compare 14 = .ok (.iaload, 1) := by decide +kernel
theorem dX12_compare_15 : decode cX12_compare 15 = .ok (.aload_n 2, 1) := by decide +kernel
theorem dX12_compare_16 : decode cX12_compare 16 = .ok (.iload_n 3, 1) := by decide +kernel
theorem dX12_compare_17 : decode cX12_compare 17 = .ok (.iaload, 1) := by decide +kernel
theorem dX12_compare_18 : decode cX12_compare 18 = .ok (.if_icmp .eq 18, 3) := by decide +kernel
theorem dX12_compare_21 : decode cX12_compare 21 = .ok (.aload_n 1, 1) := by decide +kernel
theorem dX12_compare_22 : decode cX12_compare 22 = .ok (.iload_n 3, 1) := by decide +kernel
theorem dX12_compare_23 : decode cX12_compare 23 = .ok (.iaload, 1) := by decide +kernel
theorem dX12_compare_24 : decode cX12_compare 24 = .ok (.aload_n 2, 1) := by decide +kernel
theorem dX12_compare_25 : decode cX12_compare 25 = .ok (.iload_n 3, 1) := by decide +kernel
theorem dX12_compare_26 : decode cX12_compare 26 = .ok (.iaload, 1) := by decide +kernel
theorem dX12_compare_27 : decode cX12_compare 27 = .ok (.if_icmp .ge 7, 3) := by decide +kernel
theorem dX12_compare_30 : decode cX12_compare 30 = .ok (.iconst (-1), 1) := by decide +kernel
theorem dX12_compare_31 : decode cX12_compare 31 = .ok (.goto 4, 3) := by decide +kernel
theorem dX12_compare_34 : decode cX12_compare 34 = .ok (.iconst 1, 1) := by decide +kernel
theorem dX12_compare_35 : decode cX12_compare 35 = .ok (.ireturn, 1) := by decide +kernel
theorem dX12_compare_36 : decode cX12_compare 36 = .ok (.iinc 3 1, 3) := by decide +kernel
theorem dX12_compare_39 : decode cX12_compare 39 = .ok (.goto (-37), 3) := by decide +kernel
theorem dX12_compare_42 : decode cX12_compare 42 = .ok (.iconst 0, 1) := by decide +kernel
theorem dX12_compare_43 : decode cX12_compare 43 = .ok (.ireturn, 1) := by decide +kernel
theorem dX12_findForm_0 : decode cX12_findForm 0 = .ok (.aload_n 0, 1) := by decide +kernel
theorem dX12_findForm_1 : decode cX12_findForm 1 = .ok (.invokevirtual 291, 3) := by decide +kernel
theorem dX12_findForm_4 : decode cX12_findForm 4 = .ok (.iconst 0, 1) := by decide +kernel
theorem dX12_findForm_5 : decode cX12_findForm 5 = .ok (.istore_n 1, 1) := by decide +kernel
theorem dX12_findForm_6 : decode cX12_findForm 6 = .ok (.iload_n 1, 1) := by decide +kernel
theorem dX12_findForm_7 : decode cX12_findForm 7 = .ok (.iconst 4, 1) := by decide +kernel
theorem dX12_findForm_8 : decode cX12_findForm 8 = .ok (.aload_n 0, 1) := by decide +kernel
theorem dX12_findForm_9 : decode cX12_findForm 9 = .ok (.getfield 127, 3) := by decide +kernel
theorem dX12_findForm_12 : decode cX12_findForm 12 = .ok (.imul, 1) := by decide +kernel
theorem dX12_findForm_13 : decode cX12_findForm 13 = .ok (.if_icmp .ge 21, 3) := by decide +kernel
theorem dX12_findForm_16 : decode cX12_findForm 16 = .ok (.aload_n 0, 1) := by decide +kernel
theorem dX12_findForm_17 : decode cX12_findForm 17 = .ok (.getfield 94, 3) := by decide +kernel
theorem dX12_findForm_20 : decode cX12_findForm 20 = .ok (.iload_n 1, 1) := by decide +kernel
theorem dX12_findForm_21 : decode cX12_findForm 21 = .ok (.aload_n 0, 1) := by decide +kernel
theorem dX12_findForm_22 : decode cX12_findForm 22 = .ok (.getfield 97, 3) := by decide +kernel
theorem dX12_findForm_25 : decode cX12_findForm 25 = .ok (.iload_n 1, 1) := by decide +kernel
theorem dX12_findForm_26 : decode cX12_findForm 26 = .ok (.iaload, 1) := by decide +kernel
theorem dX12_findForm_27 : decode cX12_findForm 27 = .ok (.iastore, 1) := by decide +kernel
theorem dX12_findForm_28 : decode cX12_findForm 28 = .ok (.iinc 1 1, 3) := by decide +kernel
theorem dX12_findForm_31 : decode cX12_findForm 31 = .ok (.goto (-25), 3) := by decide +kernel
theorem dX12_findForm_34 : decode cX12_findForm 34 = .ok (.aload_n 0, 1) := by decide +kernel
theorem dX12_findForm_35 : decode cX12_findForm 35 = .ok (.iconst 0, 1) := by decide +kernel
theorem dX12_findForm_36 : decode cX12_findForm 36 = .ok (.putfield 294, 3) := by decide +kernel
theorem dX12_findForm_39 : decode cX12_findForm 39 = .ok (.iconst 0, 1) := by decide +kernel
theorem dX12_findForm_40 : decode cX12_findForm 40 = .ok (.istore_n 1, 1) := by decide +kernel
theorem dX12_findForm_41 : decode cX12_findForm 41 = .ok (.iload_n 1, 1) := by decide +kernel
theorem dX12_findForm_42 : decode cX12_findForm 42 = .ok (.bipush 8, 2) := by decide +kernel
theorem dX12_findForm_44 : decode cX12_findForm 44 = .ok (.if_icmp .ge 104, 3) := by decide +kernel
theorem dX12_findForm_47 : decode cX12_findForm 47 = .ok (.aload_n 0, 1) := by decide +kernel
theorem dX12_findForm_48 : decode cX12_findForm 48 = .ok (.invokevirtual 291, 3) := by decide +kernel
theorem dX12_findForm_51 : decode cX12_findForm 51 = .ok (.aload_n 0, 1) := by decide +kernel
theorem dX12_findForm_52 : decode cX12_findForm 52 = .ok (.aload_n 0, 1) := by decide +kernel
theorem dX12_findForm_53 : decode cX12_findForm 53 = .ok (.getfield 97, 3) := by decide +kernel
theorem dX12_findForm_56 : decode cX12_findForm 56 = .ok (.aload_n 0, 1) := by decide +kernel
theorem dX12_findForm_57 : decode cX12_findForm 57 = .ok (.getfield 94, 3) := by decide +kernel
theorem dX12_findForm_60 : decode cX12_findForm 60 = .ok (.invokevirtual 297, 3) := by decide +kernel
theorem dX12_findForm_63 : decode cX12_findForm 63 = .ok (.istore_n 2, 1) := by decide +kernel
theorem dX12_findForm_64 : decode cX12_findForm 64 = .ok (.iload_n 2, 1) := by decide +kernel
theorem dX12_findForm_65 : decode cX12_findForm 65 = .ok (.ifCond .ge 38, 3) := by decide +kernel
theorem dX12_findForm_68 : decode cX12_findForm 68 = .ok (.aload_n 0, 1) := by decide +kernel
theorem dX12_findForm_69 : decode cX12_findForm 69 = .ok (.iconst 0, 1) := by decide +kernel
theorem dX12_findForm_70 : decode cX12_findForm 70 = .ok (.putfield 294, 3) := by decide +kernel
theorem dX12_findForm_73 : decode cX12_findForm 73 = .ok (.iconst 0, 1) := by decide +kernel
theorem dX12_findForm_74 : decode cX12_findForm 74 = .ok (.istore_n 3, 1) := by decide +kernel
theorem dX12_findForm_75 : decode cX12_findForm 75 = .ok (.iload_n 3, 1) := by decide +kernel
theorem dX12_findForm_76 : decode cX12_findForm 76 = .ok (.iconst 4, 1) := by decide +kernel
theorem dX12_findForm_77 : decode cX12_findForm 77 = .ok (.aload_n 0, 1) := by decide +kernel
theorem dX12_findForm_78 : decode cX12_findForm 78 = .ok (.getfield 127, 3) := by decide +kernel
theorem dX12_findForm_81 : decode cX12_findForm 81 = .ok (.imul, 1) := by decide +kernel
theorem dX12_findForm_82 : decode cX12_findForm 82 = .ok (.if_icmp .ge 21, 3) := by decide +kernel
theorem dX12_findForm_85 : decode cX12_findForm 85 = .ok (.aload_n 0, 1) := by decide +kernel
theorem dX12_findForm_86 : decode cX12_findForm 86 = .ok (.getfield 94, 3) := by decide +kernel
theorem dX12_findForm_89 : decode cX12_findForm 89 = .ok (.iload_n 3, 1) := by decide +kernel
theorem dX12_findForm_90 : decode cX12_findForm 90 = .ok (.aload_n 0, 1) := by decide +kernel
theorem dX12_findForm_91 : decode cX12_findForm 91 = .ok (.getfield 97, 3) := by decide +kernel
theorem dX12_findForm_94 : decode cX12_findForm 94 = .ok (.iload_n 3, 1) := by decide +kernel
theorem dX12_findForm_95 : decode cX12_findForm 95 = .ok (.iaload, 1) := by decide +kernel
theorem dX12_findForm_96 : decode cX12_findForm 96 = .ok (.iastore, 1) := by decide +kernel
theorem dX12_findForm_97 : decode cX12_findForm 97 = .ok (.iinc 3 1, 3) := by decide +kernel
theorem dX12_findForm_100 : decode cX12_findForm 100 = .ok (.goto (-25), 3) := by decide +kernel
theorem dX12_findForm_103 : decode cX12_findForm 103 = .ok (.aload_n 0, 1) := by decide +kernel
theorem dX12_findForm_104 : decode cX12_findForm 104 = .ok (.dup, 1) := by decide +kernel
theorem dX12_findForm_105 : decode cX12_findForm 105 = .ok (.getfield 294, 3) := by decide +kernel
theorem dX12_findForm_108 : decode cX12_findForm 108 = .ok (.iload_n 2, 1) := by decide +kernel
theorem dX12_findForm_109 : decode cX12_findForm 109 = .ok (.ifCond .gt 7, 3) := by decide +kernel
theorem dX12_findForm_112 : decode cX12_findForm 112 = .ok (.iconst 1, 1) := by decide +kernel
theorem dX12_findForm_113 : decode cX12_findForm 113 = .ok (.goto 4, 3) := by decide +kernel
theorem dX12_findForm_116 : decode cX12_findForm 116 = .ok (.iconst 0, 1) := by decide +kernel
theorem dX12_findForm_117 : decode cX12_findForm 117 = .ok (.iadd, 1) := by decide +kernel
theorem dX12_findForm_118 : decode cX12_findForm 118 = .ok (.putfield 294, 3) := by decide +kernel
theorem dX12_findForm_121 : decode cX12_findForm 121 = .ok (.aload_n 0, 1) := by decide +kernel
theorem dX12_findForm_122 : decode cX12_findForm 122 = .ok (.iconst 0, 1) := by decide +kernel
theorem dX12_findForm_123 : decode cX12_findForm 123 = .ok (.invokevirtual 275, 3) := by decide +kernel
theorem dX12_findForm_126 : decode cX12_findForm 126 = .ok (.iload_n 1, 1) := by decide +kernel
theorem dX12_findForm_127 : decode cX12_findForm 127 = .ok (.iconst 3, 1) := by decide +kernel
theorem dX12_findForm_128 : decode cX12_findForm 128 = .ok (.if_icmp .eq 9, 3) := by decide +kernel
theorem dX12_findForm_131 : decode cX12_findForm 131 = .ok (.iload_n 1, 1) := by decide +kernel
theorem dX12_findForm_132 : decode cX12_findForm 132 = .ok (.bipush 7, 2) := by decide +kernel
theorem dX12_findForm_134 : decode cX12_findForm 134 = .ok (.if_icmp .ne 8, 3) := by decide +kernel
theorem dX12_findForm_137 : decode cX12_findForm 137 = .ok (.aload_n 0, 1) := by decide +kernel
theorem dX12_findForm_138 : decode cX12_findForm 138 = .ok (.iconst 1, 1) := by decide +kernel
theorem dX12_findForm_139 : decode cX12_findForm 139 = .ok (.invokevirtual 275, 3) := by decide +kernel
theorem dX12_findForm_142 : decode cX12_findForm 142 = .ok (.iinc 1 1, 3) := by decide +kernel
theorem dX12_findForm_145 : decode cX12_findForm 145 = .ok (.goto (-104), 3) := by decide +kernel
theorem dX12_findForm_148 : decode cX12_findForm 148 = .ok (.return_, 1) := by decide +kernel
theorem dX12_form_0 : decode cX12_form 0 = .ok (.aload_n 0, 1) := by decide +kernel
theorem dX12_form_1 : decode cX12_form 1 = .ok (.iconst 0, 1) := by decide +kernel
theorem dX12_form_2 : decode cX12_form 2 = .ok (.putfield 113, 3) := by decide +kernel
theorem dX12_form_5 : decode cX12_form 5 = .ok (.iload_n 1, 1) := by decide +kernel
theorem dX12_form_6 : decode cX12_form 6 = .ok (.ifCond .ge 6, 3) := by decide +kernel
theorem dX12_form_9 : decode cX12_form 9 = .ok (.bipush (-3), 2) := by decide +kernel
theorem dX12_form_11 : decode cX12_form 11 = .ok (.ireturn, 1) := by decide +kernel
theorem dX12_form_12 : decode cX12_form 12 = .ok (.aload_n 0, 1) := by decide +kernel
theorem dX12_form_13 : decode cX12_form 13 = .ok (.invokevirtual 301, 3) := by decide +kernel
theorem dX12_form_16 : decode cX12_form 16 = .ok (.iload_n 1, 1) := by decide +kernel
theorem dX12_form_17 : decode cX12_form 17 = .ok (.iconst 4, 1) := by decide +kernel
theorem dX12_form_18 : decode cX12_form 18 = .ok (.aload_n 0, 1) := by decide +kernel
theorem dX12_form_19 : decode cX12_form 19 = .ok (.getfield 127, 3) := by decide +kernel
theorem dX12_form_22 : decode cX12_form 22 = .ok (.imul, 1) := by decide +kernel
theorem dX12_form_23 : decode cX12_form 23 = .ok (.if_icmp .ge 12, 3) := by decide +kernel
theorem dX12_form_26 : decode cX12_form 26 = .ok (.aload_n 0, 1) := by decide +kernel
theorem dX12_form_27 : decode cX12_form 27 = .ok (.getfield 94, 3) := by decide +kernel
theorem dX12_form_30 : decode cX12_form 30 = .ok (.iload_n 1, 1) := by decide +kernel
theorem dX12_form_31 : decode cX12_form 31 = .ok (.iaload, 1) := by decide +kernel
theorem dX12_form_32 : decode cX12_form 32 = .ok (.goto 4, 3) := by decide +kernel
theorem dX12_form_35 : decode cX12_form 35 = .ok (.iconst (-1), 1) := by decide +kernel
theorem dX12_form_36 : decode cX12_form 36 = .ok (.ireturn, 1) := by decide +kernel
theorem dX12_same_0 : decode cX12_same 0 = .ok (.aload_n 0, 1) := by decide +kernel
theorem dX12_same_1 : decode cX12_same 1 = .ok (.iconst 0, 1) := by decide +kernel
theorem dX12_same_2 : decode cX12_same 2 = .ok (.putfield 113, 3) := by decide +kernel
theorem dX12_same_5 : decode cX12_same 5 = .ok (.aload_n 0, 1) := by decide +kernel
theorem dX12_same_6 : decode cX12_same 6 = .ok (.invokevirtual 301, 3) := by decide +kernel
theorem dX12_same_9 : decode cX12_same 9 = .ok (.aload_n 0, 1) := by decide +kernel
theorem dX12_same_10 : decode cX12_same 10 = .ok (.getfield 294, 3) := by decide +kernel
theorem dX12_same_13 : decode cX12_same 13 = .ok (.ireturn, 1) := by decide +kernel
theorem dX12_shelve_0 : decode cX12_shelve 0 = .ok (.aload_n 0, 1) := by decide +kernel
theorem dX12_shelve_1 : decode cX12_shelve 1 = .ok (.iconst 0, 1) := by decide +kernel
theorem dX12_shelve_2 : decode cX12_shelve 2 = .ok (.putfield 113, 3) := by decide +kernel
theorem dX12_shelve_5 : decode cX12_shelve 5 = .ok (.iload_n 1, 1) := by decide +kernel
theorem dX12_shelve_6 : decode cX12_shelve 6 = .ok (.iconst 0, 1) := by decide +kernel
theorem dX12_shelve_7 : decode cX12_shelve 7 = .ok (.iconst 5, 1) := by decide +kernel
theorem dX12_shelve_8 : decode cX12_shelve 8 = .ok (.invokestatic 139, 3) := by decide +kernel
theorem dX12_shelve_11 : decode cX12_shelve 11 = .ok (.ifCond .ne 6, 3) := by decide +kernel
theorem dX12_shelve_14 : decode cX12_shelve 14 = .ok (.bipush (-3), 2) := by decide +kernel
theorem dX12_shelve_16 : decode cX12_shelve 16 = .ok (.ireturn, 1) := by decide +kernel
theorem dX12_shelve_17 : decode cX12_shelve 17 = .ok (.aload_n 0, 1) := by decide +kernel
theorem dX12_shelve_18 : decode cX12_shelve 18 = .ok (.invokevirtual 301, 3) := by decide +kernel
theorem dX12_shelve_21 : decode cX12_shelve 21 = .ok (.aload_n 0, 1) := by decide +kernel
theorem dX12_shelve_22 : decode cX12_shelve 22 = .ok (.getfield 31, 3) := by decide +kernel
theorem dX12_shelve_25 : decode cX12_shelve 25 = .ok (.iload_n 1, 1) := by decide +kernel
theorem dX12_shelve_26 : decode cX12_shelve 26 = .ok (.aload_n 0, 1) := by decide +kernel
theorem dX12_shelve_27 : decode cX12_shelve 27 = .ok (.getfield 127, 3) := by decide +kernel
theorem dX12_shelve_30 : decode cX12_shelve 30 = .ok (.iastore, 1) := by decide +kernel
theorem dX12_shelve_31 : decode cX12_shelve 31 = .ok (.iconst 0, 1) := by decide +kernel
theorem dX12_shelve_32 : decode cX12_shelve 32 = .ok (.istore_n 2, 1) := by decide +kernel
theorem dX12_shelve_33 : decode cX12_shelve 33 = .ok (.iload_n 2, 1) := by decide +kernel
theorem dX12_shelve_34 : decode cX12_shelve 34 = .ok (.iconst 4, 1) := by decide +kernel
theorem dX12_shelve_35 : decode cX12_shelve 35 = .ok (.aload_n 0, 1) := by decide +kernel
theorem dX12_shelve_36 : decode cX12_shelve 36 = .ok (.getfield 127, 3) := by decide +kernel
theorem dX12_shelve_39 : decode cX12_shelve 39 = .ok (.imul, 1) := by decide +kernel
theorem dX12_shelve_40 : decode cX12_shelve 40 = .ok (.if_icmp .ge 27, 3) := by decide +kernel
theorem dX12_shelve_43 : decode cX12_shelve 43 = .ok (.aload_n 0, 1) := by decide +kernel
theorem dX12_shelve_44 : decode cX12_shelve 44 = .ok (.getfield 34, 3) := by decide +kernel
theorem dX12_shelve_47 : decode cX12_shelve 47 = .ok (.sipush 240, 3) := by decide +kernel
theorem dX12_shelve_50 : decode cX12_shelve 50 = .ok (.iload_n 1, 1) := by decide +kernel
theorem dX12_shelve_51 : decode cX12_shelve 51 = .ok (.imul, 1) := by decide +kernel
theorem dX12_shelve_52 : decode cX12_shelve 52 = .ok (.iload_n 2, 1) := by decide +kernel
theorem dX12_shelve_53 : decode cX12_shelve 53 = .ok (.iadd, 1) := by decide +kernel
theorem dX12_shelve_54 : decode cX12_shelve 54 = .ok (.aload_n 0, 1) := by decide +kernel
theorem dX12_shelve_55 : decode cX12_shelve 55 = .ok (.getfield 94, 3) := by decide +kernel
theorem dX12_shelve_58 : decode cX12_shelve 58 = .ok (.iload_n 2, 1) := by decide +kernel
theorem dX12_shelve_59 : decode cX12_shelve 59 = .ok (.iaload, 1) := by decide +kernel
theorem dX12_shelve_60 : decode cX12_shelve 60 = .ok (.iastore, 1) := by decide +kernel
theorem dX12_shelve_61 : decode cX12_shelve 61 = .ok (.iinc 2 1, 3) := by decide +kernel
theorem dX12_shelve_64 : decode cX12_shelve 64 = .ok (.goto (-31), 3) := by decide +kernel
theorem dX12_shelve_67 : decode cX12_shelve 67 = .ok (.aload_n 0, 1) := by decide +kernel
theorem dX12_shelve_68 : decode cX12_shelve 68 = .ok (.getfield 127, 3) := by decide +kernel
theorem dX12_shelve_71 : decode cX12_shelve 71 = .ok (.ireturn, 1) := by decide +kernel
theorem dX12_alike_0 : decode cX12_alike 0 = .ok (.aload_n 0, 1) := by decide +kernel
theorem dX12_alike_1 : decode cX12_alike 1 = .ok (.iconst 0, 1) := by decide +kernel
theorem dX12_alike_2 : decode cX12_alike 2 = .ok (.putfield 113, 3) := by decide +kernel
theorem dX12_alike_5 : decode cX12_alike 5 = .ok (.iload_n 1, 1) := by decide +kernel
theorem dX12_alike_6 : decode cX12_alike 6 = .ok (.iconst 0, 1) := by decide +kernel
theorem dX12_alike_7 : decode cX12_alike 7 = .ok (.iconst 5, 1) := by decide +kernel
theorem dX12_alike_8 : decode cX12_alike 8 = .ok (.invokestatic 139, 3) := by decide +kernel
theorem dX12_alike_11 : decode cX12_alike 11 = .ok (.ifCond .ne 6, 3) := by decide +kernel
theorem dX12_alike_14 : decode cX12_alike 14 = .ok (.bipush (-3), 2) := by decide +kernel
theorem dX12_alike_16 : decode cX12_alike 16 = .ok (.ireturn, 1) := by decide +kernel
theorem dX12_alike_17 : decode cX12_alike 17 = .ok (.aload_n 0, 1) := by decide +kernel
theorem dX12_alike_18 : decode cX12_alike 18 = .ok (.invokevirtual 301, 3) := by decide +kernel
theorem dX12_alike_21 : decode cX12_alike 21 = .ok (.aload_n 0, 1) := by decide +kernel
theorem dX12_alike_22 : decode cX12_alike 22 = .ok (.getfield 31, 3) := by decide +kernel
theorem dX12_alike_25 : decode cX12_alike 25 = .ok (.iload_n 1, 1) := by decide +kernel
theorem dX12_alike_26 : decode cX12_alike 26 = .ok (.iaload, 1) := by decide +kernel
theorem dX12_alike_27 : decode cX12_alike 27 = .ok (.aload_n 0, 1) := by decide +kernel
theorem dX12_alike_28 : decode cX12_alike 28 = .ok (.getfield 127, 3) := by decide +kernel
theorem dX12_alike_31 : decode cX12_alike 31 = .ok (.if_icmp .ne 7, 3) := by decide +kernel
theorem dX12_alike_34 : decode cX12_alike 34 = .ok (.iconst 1, 1) := by decide +kernel
theorem dX12_alike_35 : decode cX12_alike 35 = .ok (.goto 4, 3) := by decide +kernel
theorem dX12_alike_38 : decode cX12_alike 38 = .ok (.iconst 0, 1) := by decide +kernel
theorem dX12_alike_39 : decode cX12_alike 39 = .ok (.istore_n 2, 1) := by decide +kernel
theorem dX12_alike_40 : decode cX12_alike 40 = .ok (.iconst 0, 1) := by decide +kernel
theorem dX12_alike_41 : decode cX12_alike 41 = .ok (.istore_n 3, 1) := by decide +kernel
theorem dX12_alike_42 : decode cX12_alike 42 = .ok (.iload_n 3, 1) := by decide +kernel
theorem dX12_alike_43 : decode cX12_alike 43 = .ok (.iconst 4, 1) := by decide +kernel
theorem dX12_alike_44 : decode cX12_alike 44 = .ok (.aload_n 0, 1) := by decide +kernel
theorem dX12_alike_45 : decode cX12_alike 45 = .ok (.getfield 127, 3) := by decide +kernel
theorem dX12_alike_48 : decode cX12_alike 48 = .ok (.imul, 1) := by decide +kernel
theorem dX12_alike_49 : decode cX12_alike 49 = .ok (.if_icmp .ge 40, 3) := by decide +kernel
theorem dX12_alike_52 : decode cX12_alike 52 = .ok (.iload_n 2, 1) := by decide +kernel
theorem dX12_alike_53 : decode cX12_alike 53 = .ok (.ifCond .eq 36, 3) := by decide +kernel
theorem dX12_alike_56 : decode cX12_alike 56 = .ok (.aload_n 0, 1) := by decide +kernel
theorem dX12_alike_57 : decode cX12_alike 57 = .ok (.getfield 34, 3) := by decide +kernel
theorem dX12_alike_60 : decode cX12_alike 60 = .ok (.sipush 240, 3) := by decide +kernel
theorem dX12_alike_63 : decode cX12_alike 63 = .ok (.iload_n 1, 1) := by decide +kernel
theorem dX12_alike_64 : decode cX12_alike 64 = .ok (.imul, 1) := by decide +kernel
theorem dX12_alike_65 : decode cX12_alike 65 = .ok (.iload_n 3, 1) := by decide +kernel
theorem dX12_alike_66 : decode cX12_alike 66 = .ok (.iadd, 1) := by decide +kernel
theorem dX12_alike_67 : decode cX12_alike 67 = .ok (.iaload, 1) := by decide +kernel
theorem dX12_alike_68 : decode cX12_alike 68 = .ok (.aload_n 0, 1) := by decide +kernel
theorem dX12_alike_69 : decode cX12_alike 69 = .ok (.getfield 94, 3) := by decide +kernel
theorem dX12_alike_72 : decode cX12_alike 72 = .ok (.iload_n 3, 1) := by decide +kernel
theorem dX12_alike_73 : decode cX12_alike 73 = .ok (.iaload, 1) := by decide +kernel
theorem dX12_alike_74 : decode cX12_alike 74 = .ok (.if_icmp .ne 7, 3) := by decide +kernel
theorem dX12_alike_77 : decode cX12_alike 77 = .ok (.iconst 1, 1) := by decide +kernel
theorem dX12_alike_78 : decode cX12_alike 78 = .ok (.goto 4, 3) := by decide +kernel
theorem dX12_alike_81 : decode cX12_alike 81 = .ok (.iconst 0, 1) := by decide +kernel
theorem dX12_alike_82 : decode cX12_alike 82 = .ok (.istore_n 2, 1) := by decide +kernel
theorem dX12_alike_83 : decode cX12_alike 83 = .ok (.iinc 3 1, 3) := by decide +kernel
theorem dX12_alike_86 : decode cX12_alike 86 = .ok (.goto (-44), 3) := by decide +kernel
theorem dX12_alike_89 : decode cX12_alike 89 = .ok (.iload_n 2, 1) := by decide +kernel
theorem dX12_alike_90 : decode cX12_alike 90 = .ok (.ifCond .eq 7, 3) := by decide +kernel
theorem dX12_alike_93 : decode cX12_alike 93 = .ok (.iconst 1, 1) := by decide +kernel
theorem dX12_alike_94 : decode cX12_alike 94 = .ok (.goto 4, 3) := by decide +kernel
theorem dX12_alike_97 : decode cX12_alike 97 = .ok (.iconst 0, 1) := by decide +kernel
theorem dX12_alike_98 : decode cX12_alike 98 = .ok (.ireturn, 1) := by decide +kernel
theorem dX12_wrapAcross_0 : decode cX12_wrapAcross 0 = .ok (.iload_n 2, 1) := by decide +kernel
theorem dX12_wrapAcross_1 : decode cX12_wrapAcross 1 = .ok (.aload_n 0, 1) := by decide +kernel
theorem dX12_wrapAcross_2 : decode cX12_wrapAcross 2 = .ok (.getfield 103, 3) := by decide +kernel
theorem dX12_wrapAcross_5 : decode cX12_wrapAcross 5 = .ok (.iload_n 1, 1) := by decide +kernel
theorem dX12_wrapAcross_6 : decode cX12_wrapAcross 6 = .ok (.iaload, 1) := by decide +kernel
theorem dX12_wrapAcross_7 : decode cX12_wrapAcross 7 = .ok (.isub, 1) := by decide +kernel
theorem dX12_wrapAcross_8 : decode cX12_wrapAcross 8 = .ok (.iconst 4, 1) := by decide +kernel
theorem dX12_wrapAcross_9 : decode cX12_wrapAcross 9 = .ok (.iadd, 1) := by decide +kernel
theorem dX12_wrapAcross_10 : decode cX12_wrapAcross 10 = .ok (.iconst 4, 1) := by decide +kernel
theorem dX12_wrapAcross_11 : decode cX12_wrapAcross 11 = .ok (.irem, 1) := by decide +kernel
theorem dX12_wrapAcross_12 : decode cX12_wrapAcross 12 = .ok (.istore_n 3, 1) := by decide +kernel
theorem dX12_wrapAcross_13 : decode cX12_wrapAcross 13 = .ok (.aload_n 0, 1) := by decide +kernel
theorem dX12_wrapAcross_14 : decode cX12_wrapAcross 14 = .ok (.aload_n 0, 1) := by decide +kernel
theorem dX12_wrapAcross_15 : decode cX12_wrapAcross 15 = .ok (.getfield 100, 3) := by decide +kernel
theorem dX12_wrapAcross_18 : decode cX12_wrapAcross 18 = .ok (.iload_n 1, 1) := by decide +kernel
theorem dX12_wrapAcross_19 : decode cX12_wrapAcross 19 = .ok (.iaload, 1) := by decide +kernel
theorem dX12_wrapAcross_20 : decode cX12_wrapAcross 20 = .ok (.iload_n 3, 1) := by decide +kernel
theorem dX12_wrapAcross_21 : decode cX12_wrapAcross 21 = .ok (.invokevirtual 226, 3) := by decide +kernel
theorem dX12_wrapAcross_24 : decode cX12_wrapAcross 24 = .ok (.iload_n 2, 1) := by decide +kernel
theorem dX12_wrapAcross_25 : decode cX12_wrapAcross 25 = .ok (.iconst 2, 1) := by decide +kernel
theorem dX12_wrapAcross_26 : decode cX12_wrapAcross 26 = .ok (.iadd, 1) := by decide +kernel
theorem dX12_wrapAcross_27 : decode cX12_wrapAcross 27 = .ok (.aload_n 0, 1) := by decide +kernel
theorem dX12_wrapAcross_28 : decode cX12_wrapAcross 28 = .ok (.getfield 220, 3) := by decide +kernel
theorem dX12_wrapAcross_31 : decode cX12_wrapAcross 31 = .ok (.isub, 1) := by decide +kernel
theorem dX12_wrapAcross_32 : decode cX12_wrapAcross 32 = .ok (.iconst 4, 1) := by decide +kernel
theorem dX12_wrapAcross_33 : decode cX12_wrapAcross 33 = .ok (.iadd, 1) := by decide +kernel
theorem dX12_wrapAcross_34 : decode cX12_wrapAcross 34 = .ok (.iconst 4, 1) := by decide +kernel
theorem dX12_wrapAcross_35 : decode cX12_wrapAcross 35 = .ok (.irem, 1) := by decide +kernel
theorem dX12_wrapAcross_36 : decode cX12_wrapAcross 36 = .ok (.istore 4, 2) := by decide +kernel
theorem dX12_wrapAcross_38 : decode cX12_wrapAcross 38 = .ok (.aload_n 0, 1) := by decide +kernel
theorem dX12_wrapAcross_39 : decode cX12_wrapAcross 39 = .ok (.iload_n 1, 1) := by decide +kernel
theorem dX12_wrapAcross_40 : decode cX12_wrapAcross 40 = .ok (.iload_n 2, 1) := by decide +kernel
theorem dX12_wrapAcross_41 : decode cX12_wrapAcross 41 = .ok (.invokevirtual 258, 3) := by decide +kernel
theorem dX12_wrapAcross_44 : decode cX12_wrapAcross 44 = .ok (.istore 5, 2) := by decide +kernel
theorem dX12_wrapAcross_46 : decode cX12_wrapAcross 46 = .ok (.aload_n 0, 1) := by decide +kernel
theorem dX12_wrapAcross_47 : decode cX12_wrapAcross 47 = .ok (.getfield 100, 3) := by decide +kernel
theorem dX12_wrapAcross_50 : decode cX12_wrapAcross 50 = .ok (.iload 5, 2) := by decide +kernel
theorem dX12_wrapAcross_52 : decode cX12_wrapAcross 52 = .ok (.iaload, 1) := by decide +kernel
theorem dX12_wrapAcross_53 : decode cX12_wrapAcross 53 = .ok (.iconst (-1), 1) := by decide +kernel
theorem dX12_wrapAcross_54 : decode cX12_wrapAcross 54 = .ok (.if_icmp .eq 35, 3) := by decide +kernel
theorem dX12_wrapAcross_57 : decode cX12_wrapAcross 57 = .ok (.aload_n 0, 1) := by decide +kernel
theorem dX12_wrapAcross_58 : decode cX12_wrapAcross 58 = .ok (.getfield 100, 3) := by decide +kernel
theorem dX12_wrapAcross_61 : decode cX12_wrapAcross 61 = .ok (.iload 5, 2) := by decide +kernel
theorem dX12_wrapAcross_63 : decode cX12_wrapAcross 63 = .ok (.iaload, 1) := by decide +kernel
theorem dX12_wrapAcross_64 : decode cX12_wrapAcross 64 = .ok (.aload_n 0, 1) := by decide +kernel
theorem dX12_wrapAcross_65 : decode cX12_wrapAcross 65 = .ok (.getfield 213, 3) := by decide +kernel
theorem dX12_wrapAcross_68 : decode cX12_wrapAcross 68 = .ok (.if_icmp .ne 15, 3) := by decide +kernel
theorem dX12_wrapAcross_71 : decode cX12_wrapAcross 71 = .ok (.aload_n 0, 1) := by decide +kernel
theorem dX12_wrapAcross_72 : decode cX12_wrapAcross 72 = .ok (.getfield 103, 3) := by decide +kernel
theorem dX12_wrapAcross_75 : decode cX12_wrapAcross 75 = .ok (.iload 5, 2) := by decide +kernel
theorem dX12_wrapAcross_77 : decode cX12_wrapAcross 77 = .ok (.iaload, 1) := by decide +kernel
theorem dX12_wrapAcross_78 : decode cX12_wrapAcross 78 = .ok (.iload 4, 2) := by decide +kernel
theorem dX12_wrapAcross_80 : decode cX12_wrapAcross 80 = .ok (.if_icmp .eq 7, 3) := by decide +kernel
theorem dX12_wrapAcross_83 : decode cX12_wrapAcross 83 = .ok (.iconst 2, 1) := by decide +kernel
theorem dX12_wrapAcross_84 : decode cX12_wrapAcross 84 = .ok (.goto 4, 3) := by decide +kernel
theorem dX12_wrapAcross_87 : decode cX12_wrapAcross 87 = .ok (.iconst 0, 1) := by decide +kernel
theorem dX12_wrapAcross_88 : decode cX12_wrapAcross 88 = .ok (.ireturn, 1) := by decide +kernel
theorem dX12_wrapAcross_89 : decode cX12_wrapAcross 89 = .ok (.aload_n 0, 1) := by decide +kernel
theorem dX12_wrapAcross_90 : decode cX12_wrapAcross 90 = .ok (.getfield 106, 3) := by decide +kernel
theorem dX12_wrapAcross_93 : decode cX12_wrapAcross 93 = .ok (.aload_n 0, 1) := by decide +kernel
theorem dX12_wrapAcross_94 : decode cX12_wrapAcross 94 = .ok (.getfield 213, 3) := by decide +kernel
theorem dX12_wrapAcross_97 : decode cX12_wrapAcross 97 = .ok (.baload, 1) := by decide +kernel
theorem dX12_wrapAcross_98 : decode cX12_wrapAcross 98 = .ok (.ifCond .eq 5, 3) := by decide +kernel
theorem dX12_wrapAcross_101 : decode cX12_wrapAcross 101 = .ok (.iconst 2, 1) := by decide +kernel
theorem dX12_wrapAcross_102 : decode cX12_wrapAcross 102 = .ok (.ireturn, 1) := by decide +kernel
theorem dX12_wrapAcross_103 : decode cX12_wrapAcross 103 = .ok (.aload_n 0, 1) := by decide +kernel
theorem dX12_wrapAcross_104 : decode cX12_wrapAcross 104 = .ok (.getfield 106, 3) := by decide +kernel
theorem dX12_wrapAcross_107 : decode cX12_wrapAcross 107 = .ok (.aload_n 0, 1) := by decide +kernel
theorem dX12_wrapAcross_108 : decode cX12_wrapAcross 108 = .ok (.getfield 213, 3) := by decide +kernel
theorem dX12_wrapAcross_111 : decode cX12_wrapAcross 111 = .ok (.iconst 1, 1) := by decide +kernel
theorem dX12_wrapAcross_112 : decode cX12_wrapAcross 112 = .ok (.bastore, 1) := by decide +kernel
theorem dX12_wrapAcross_113 : decode cX12_wrapAcross 113 = .ok (.aload_n 0, 1) := by decide +kernel
theorem dX12_wrapAcross_114 : decode cX12_wrapAcross 114 = .ok (.getfield 100, 3) := by decide +kernel
theorem dX12_wrapAcross_117 : decode cX12_wrapAcross 117 = .ok (.iload 5, 2) := by decide +kernel
theorem dX12_wrapAcross_119 : decode cX12_wrapAcross 119 = .ok (.aload_n 0, 1) := by decide +kernel
theorem dX12_wrapAcross_120 : decode cX12_wrapAcross 120 = .ok (.getfield 213, 3) := by decide +kernel
theorem dX12_wrapAcross_123 : decode cX12_wrapAcross 123 = .ok (.iastore, 1) := by decide +kernel
theorem dX12_wrapAcross_124 : decode cX12_wrapAcross 124 = .ok (.aload_n 0, 1) := by decide +kernel
theorem dX12_wrapAcross_125 : decode cX12_wrapAcross 125 = .ok (.getfield 103, 3) := by decide +kernel
theorem dX12_wrapAcross_128 : decode cX12_wrapAcross 128 = .ok (.iload 5, 2) := by decide +kernel
theorem dX12_wrapAcross_130 : decode cX12_wrapAcross 130 = .ok (.iload 4, 2) := by decide +kernel
theorem dX12_wrapAcross_132 : decode cX12_wrapAcross 132 = .ok (.iastore, 1) := by decide +kernel
theorem dX12_wrapAcross_133 : decode cX12_wrapAcross 133 = .ok (.aload_n 0, 1) := by decide +kernel
theorem dX12_wrapAcross_134 : decode cX12_wrapAcross 134 = .ok (.getfield 110, 3) := by decide +kernel
theorem dX12_wrapAcross_137 : decode cX12_wrapAcross 137 = .ok (.aload_n 0, 1) := by decide +kernel
theorem dX12_wrapAcross_138 : decode cX12_wrapAcross 138 = .ok (.getfield 304, 3) := by decide +kernel
theorem dX12_wrapAcross_141 : decode cX12_wrapAcross 141 = .ok (.iload 5, 2) := by decide +kernel
theorem dX12_wrapAcross_143 : decode cX12_wrapAcross 143 = .ok (.iastore, 1) := by decide +kernel
theorem dX12_wrapAcross_144 : decode cX12_wrapAcross 144 = .ok (.aload_n 0, 1) := by decide +kernel
theorem dX12_wrapAcross_145 : decode cX12_wrapAcross 145 = .ok (.dup, 1) := by decide +kernel
theorem dX12_wrapAcross_146 : decode cX12_wrapAcross 146 = .ok (.getfield 304, 3) := by decide +kernel
theorem dX12_wrapAcross_149 : decode cX12_wrapAcross 149 = .ok (.iconst 1, 1) := by decide +kernel
theorem dX12_wrapAcross_150 : decode cX12_wrapAcross 150 = .ok (.iadd, 1) := by decide +kernel
theorem dX12_wrapAcross_151 : decode cX12_wrapAcross 151 = .ok (.putfield 304, 3) := by decide +kernel
theorem dX12_wrapAcross_154 : decode cX12_wrapAcross 154 = .ok (.iconst 1, 1) := by decide +kernel
theorem dX12_wrapAcross_155 : decode cX12_wrapAcross 155 = .ok (.ireturn, 1) := by decide +kernel
theorem dX12_doesWrap_0 : decode cX12_doesWrap 0 = .ok (.iconst 0, 1) := by decide +kernel
theorem dX12_doesWrap_1 : decode cX12_doesWrap 1 = .ok (.istore 4, 2) := by decide +kernel
theorem dX12_doesWrap_3 : decode cX12_doesWrap 3 = .ok (.iload 4, 2) := by decide +kernel
theorem dX12_doesWrap_5 : decode cX12_doesWrap 5 = .ok (.aload_n 0, 1) := by decide +kernel
theorem dX12_doesWrap_6 : decode cX12_doesWrap 6 = .ok (.getfield 127, 3) := by decide +kernel
theorem dX12_doesWrap_9 : decode cX12_doesWrap 9 = .ok (.if_icmp .ge 17, 3) := by decide +kernel
theorem dX12_doesWrap_12 : decode cX12_doesWrap 12 = .ok (.aload_n 0, 1) := by decide +kernel
theorem dX12_doesWrap_13 : decode cX12_doesWrap 13 = .ok (.getfield 100, 3) := by decide +kernel
theorem dX12_doesWrap_16 : decode cX12_doesWrap 16 = .ok (.iload 4, 2) := by decide +kernel
theorem dX12_doesWrap_18 : decode cX12_doesWrap 18 = .ok (.iconst (-1), 1) := by decide +kernel
theorem dX12_doesWrap_19 : decode cX12_doesWrap 19 = .ok (.iastore, 1) := by decide +kernel
theorem dX12_doesWrap_20 : decode cX12_doesWrap 20 = .ok (.iinc 4 1, 3) := by decide +kernel
theorem dX12_doesWrap_23 : decode cX12_doesWrap 23 = .ok (.goto (-20), 3) := by decide +kernel
theorem dX12_doesWrap_26 : decode cX12_doesWrap 26 = .ok (.iconst 0, 1) := by decide +kernel
theorem dX12_doesWrap_27 : decode cX12_doesWrap 27 = .ok (.istore 4, 2) := by decide +kernel
theorem dX12_doesWrap_29 : decode cX12_doesWrap 29 = .ok (.iload 4, 2) := by decide +kernel
theorem dX12_doesWrap_31 : decode cX12_doesWrap 31 = .ok (.aload_n 0, 1) := by decide +kernel
theorem dX12_doesWrap_32 : decode cX12_doesWrap 32 = .ok (.getfield 195, 3) := by decide +kernel
theorem dX12_doesWrap_35 : decode cX12_doesWrap 35 = .ok (.if_icmp .ge 27, 3) := by decide +kernel
theorem dX12_doesWrap_38 : decode cX12_doesWrap 38 = .ok (.aload_n 0, 1) := by decide +kernel
theorem dX12_doesWrap_39 : decode cX12_doesWrap 39 = .ok (.getfield 106, 3) := by decide +kernel
theorem dX12_doesWrap_42 : decode cX12_doesWrap 42 = .ok (.iload 4, 2) := by decide +kernel
theorem dX12_doesWrap_44 : decode cX12_doesWrap 44 = .ok (.iload 4, 2) := by decide +kernel
theorem dX12_doesWrap_46 : decode cX12_doesWrap 46 = .ok (.iload_n 2, 1) := by decide +kernel
theorem dX12_doesWrap_47 : decode cX12_doesWrap 47 = .ok (.if_icmp .ne 7, 3) := by decide +kernel
theorem dX12_doesWrap_50 : decode cX12_doesWrap 50 = .ok (.iconst 1, 1) := by decide +kernel
theorem dX12_doesWrap_51 : decode cX12_doesWrap 51 = .ok (.goto 4, 3) := by decide +kernel
theorem dX12_doesWrap_54 : decode cX12_doesWrap 54 = .ok (.iconst 0, 1) := by decide +kernel
theorem dX12_doesWrap_55 : decode cX12_doesWrap 55 = .ok (.bastore, 1) := by decide +kernel
theorem dX12_doesWrap_56 : decode cX12_doesWrap 56 = .ok (.iinc 4 1, 3) := by decide +kernel
theorem dX12_doesWrap_59 : decode cX12_doesWrap 59 = .ok (.goto (-30), 3) := by decide +kernel
theorem dX12_doesWrap_62 : decode cX12_doesWrap 62 = .ok (.aload_n 0, 1) := by decide +kernel
theorem dX12_doesWrap_63 : decode cX12_doesWrap 63 = .ok (.getfield 100, 3) := by decide +kernel
theorem dX12_doesWrap_66 : decode cX12_doesWrap 66 = .ok (.iload_n 1, 1) := by decide +kernel
theorem dX12_doesWrap_67 : decode cX12_doesWrap 67 = .ok (.iload_n 2, 1) := by decide +kernel
theorem dX12_doesWrap_68 : decode cX12_doesWrap 68 = .ok (.iastore, 1) := by decide +kernel
theorem dX12_doesWrap_69 : decode cX12_doesWrap 69 = .ok (.aload_n 0, 1) := by decide +kernel
theorem dX12_doesWrap_70 : decode cX12_doesWrap 70 = .ok (.getfield 103, 3) := by decide +kernel
theorem dX12_doesWrap_73 : decode cX12_doesWrap 73 = .ok (.iload_n 1, 1) := by decide +kernel
theorem dX12_doesWrap_74 : decode cX12_doesWrap 74 = .ok (.iload_n 3, 1) := by decide +kernel
theorem dX12_doesWrap_75 : decode cX12_doesWrap 75 = .ok (.iastore, 1) := by decide +kernel
theorem dX12_doesWrap_76 : decode cX12_doesWrap 76 = .ok (.aload_n 0, 1) := by decide +kernel
theorem dX12_doesWrap_77 : decode cX12_doesWrap 77 = .ok (.getfield 110, 3) := by decide +kernel
theorem dX12_doesWrap_80 : decode cX12_doesWrap 80 = .ok (.iconst 0, 1) := by decide +kernel
theorem dX12_doesWrap_81 : decode cX12_doesWrap 81 = .ok (.iload_n 1, 1) := by decide +kernel
theorem dX12_doesWrap_82 : decode cX12_doesWrap 82 = .ok (.iastore, 1) := by decide +kernel
theorem dX12_doesWrap_83 : decode cX12_doesWrap 83 = .ok (.aload_n 0, 1) := by decide +kernel
theorem dX12_doesWrap_84 : decode cX12_doesWrap 84 = .ok (.iconst 1, 1) := by decide +kernel
theorem dX12_doesWrap_85 : decode cX12_doesWrap 85 = .ok (.putfield 304, 3) := by decide +kernel
theorem dX12_doesWrap_88 : decode cX12_doesWrap 88 = .ok (.iconst 0, 1) := by decide +kernel
theorem dX12_doesWrap_89 : decode cX12_doesWrap 89 = .ok (.istore 4, 2) := by decide +kernel
theorem dX12_doesWrap_91 : decode cX12_doesWrap 91 = .ok (.iload 4, 2) := by decide +kernel
theorem dX12_doesWrap_93 : decode cX12_doesWrap 93 = .ok (.aload_n 0, 1) := by decide +kernel
theorem dX12_doesWrap_94 : decode cX12_doesWrap 94 = .ok (.getfield 304, 3) := by decide +kernel
theorem dX12_doesWrap_97 : decode cX12_doesWrap 97 = .ok (.if_icmp .ge 59, 3) := by decide +kernel
theorem dX12_doesWrap_100 : decode cX12_doesWrap 100 = .ok (.iconst 0, 1) := by decide +kernel
theorem dX12_doesWrap_101 : decode cX12_doesWrap 101 = .ok (.istore 5, 2) := by decide +kernel
theorem dX12_doesWrap_103 : decode cX12_doesWrap 103 = .ok (.iload 5, 2) := by decide +kernel
theorem dX12_doesWrap_105 : decode cX12_doesWrap 105 = .ok (.iconst 4, 1) := by decide +kernel
theorem dX12_doesWrap_106 : decode cX12_doesWrap 106 = .ok (.if_icmp .ge 44, 3) := by decide +kernel
theorem dX12_doesWrap_109 : decode cX12_doesWrap 109 = .ok (.aload_n 0, 1) := by decide +kernel
theorem dX12_doesWrap_110 : decode cX12_doesWrap 110 = .ok (.aload_n 0, 1) := by decide +kernel
theorem dX12_doesWrap_111 : decode cX12_doesWrap 111 = .ok (.getfield 110, 3) := by decide +kernel
theorem dX12_doesWrap_114 : decode cX12_doesWrap 114 = .ok (.iload 4, 2) := by decide +kernel
theorem dX12_doesWrap_116 : decode cX12_doesWrap 116 = .ok (.iaload, 1) := by decide +kernel
theorem dX12_doesWrap_117 : decode cX12_doesWrap 117 = .ok (.iload 5, 2) := by decide +kernel
theorem dX12_doesWrap_119 : decode cX12_doesWrap 119 = .ok (.invokevirtual 269, 3) := by decide +kernel
theorem dX12_doesWrap_122 : decode cX12_doesWrap 122 = .ok (.ifCond .eq 22, 3) := by decide +kernel
theorem dX12_doesWrap_125 : decode cX12_doesWrap 125 = .ok (.aload_n 0, 1) := by decide +kernel
theorem dX12_doesWrap_126 : decode cX12_doesWrap 126 = .ok (.aload_n 0, 1) := by decide +kernel
theorem dX12_doesWrap_127 : decode cX12_doesWrap 127 = .ok (.getfield 110, 3) := by decide +kernel
theorem dX12_doesWrap_130 : decode cX12_doesWrap 130 = .ok (.iload 4, 2) := by decide +kernel
theorem dX12_doesWrap_132 : decode cX12_doesWrap 132 = .ok (.iaload, 1) := by decide +kernel
theorem dX12_doesWrap_133 : decode cX12_doesWrap 133 = .ok (.iload 5, 2) := by decide +kernel
theorem dX12_doesWrap_135 : decode cX12_doesWrap 135 = .ok (.invokevirtual 307, 3) := by decide +kernel
theorem dX12_doesWrap_138 : decode cX12_doesWrap 138 = .ok (.iconst 2, 1) := by decide +kernel
theorem dX12_doesWrap_139 : decode cX12_doesWrap 139 = .ok (.if_icmp .ne 5, 3) := by decide +kernel
theorem dX12_doesWrap_142 : decode cX12_doesWrap 142 = .ok (.iconst 0, 1) := by decide +kernel
theorem dX12_doesWrap_143 : decode cX12_doesWrap 143 = .ok (.ireturn, 1) := by decide +kernel
theorem dX12_doesWrap_144 : decode cX12_doesWrap 144 = .ok (.iinc 5 1, 3) := by decide +kernel
theorem dX12_doesWrap_147 : decode cX12_doesWrap 147 = .ok (.goto (-44), 3) := by decide +kernel
theorem dX12_doesWrap_150 : decode cX12_doesWrap 150 = .ok (.iinc 4 1, 3) := by decide +kernel
theorem dX12_doesWrap_153 : decode cX12_doesWrap 153 = .ok (.goto (-62), 3) := by decide +kernel
theorem dX12_doesWrap_156 : decode cX12_doesWrap 156 = .ok (.aload_n 0, 1) := by decide +kernel
theorem dX12_doesWrap_157 : decode cX12_doesWrap 157 = .ok (.getfield 304, 3) := by decide +kernel
theorem dX12_doesWrap_160 : decode cX12_doesWrap 160 = .ok (.aload_n 0, 1) := by decide +kernel
theorem dX12_doesWrap_161 : decode cX12_doesWrap 161 = .ok (.getfield 127, 3) := by decide +kernel
theorem dX12_doesWrap_164 : decode cX12_doesWrap 164 = .ok (.if_icmp .ne 7, 3) := by decide +kernel
theorem dX12_doesWrap_167 : decode cX12_doesWrap 167 = .ok (.iconst 1, 1) := by decide +kernel
theorem dX12_doesWrap_168 : decode cX12_doesWrap 168 = .ok (.goto 4, 3) := by decide +kernel
theorem dX12_doesWrap_171 : decode cX12_doesWrap 171 = .ok (.iconst 0, 1) := by decide +kernel
theorem dX12_doesWrap_172 : decode cX12_doesWrap 172 = .ok (.ireturn, 1) := by decide +kernel
theorem dX12_findWraps_0 : decode cX12_findWraps 0 = .ok (.aload_n 0, 1) := by decide +kernel
theorem dX12_findWraps_1 : decode cX12_findWraps 1 = .ok (.iconst 0, 1) := by decide +kernel
theorem dX12_findWraps_2 : decode cX12_findWraps 2 = .ok (.putfield 310, 3) := by decide +kernel
theorem dX12_findWraps_5 : decode cX12_findWraps 5 = .ok (.aload_n 0, 1) := by decide +kernel
theorem dX12_findWraps_6 : decode cX12_findWraps 6 = .ok (.invokevirtual 223, 3) := by decide +kernel
theorem dX12_findWraps_9 : decode cX12_findWraps 9 = .ok (.aload_n 0, 1) := by decide +kernel
theorem dX12_findWraps_10 : decode cX12_findWraps 10 = .ok (.getfield 195, 3) := by decide +kernel
theorem dX12_findWraps_13 : decode cX12_findWraps 13 = .ok (.aload_n 0, 1) := by decide +kernel
theorem dX12_findWraps_14 : decode cX12_findWraps 14 = .ok (.getfield 127, 3) := by decide +kernel
theorem dX12_findWraps_17 : decode cX12_findWraps 17 = .ok (.if_icmp .eq 4, 3) := by decide +kernel
theorem dX12_findWraps_20 : decode cX12_findWraps 20 = .ok (.return_, 1) := by decide +kernel
theorem dX12_findWraps_21 : decode cX12_findWraps 21 = .ok (.iconst 0, 1) := by decide +kernel
theorem dX12_findWraps_22 : decode cX12_findWraps 22 = .ok (.istore_n 2, 1) := by decide +kernel
theorem dX12_findWraps_23 : decode cX12_findWraps 23 = .ok (.iload_n 2, 1) := by decide +kernel
theorem dX12_findWraps_24 : decode cX12_findWraps 24 = .ok (.iconst 2, 1) := by decide +kernel
theorem dX12_findWraps_25 : decode cX12_findWraps 25 = .ok (.if_icmp .ge 135, 3) := by decide +kernel
theorem dX12_findWraps_28 : decode cX12_findWraps 28 = .ok (.iload_n 2, 1) := by decide +kernel
theorem dX12_findWraps_29 : decode cX12_findWraps 29 = .ok (.ifCond .ne 7, 3) := by decide +kernel
theorem dX12_findWraps_32 : decode cX12_findWraps 32 = .ok (.iconst 0, 1) := by decide +kernel
theorem dX12_findWraps_33 : decode cX12_findWraps 33 = .ok (.goto 16, 3) := by decide +kernel
theorem dX12_findWraps_36 : decode cX12_findWraps 36 = .ok (.aload_n 0, 1) := by decide +kernel
theorem dX12_findWraps_37 : decode cX12_findWraps 37 = .ok (.aload_n 0, 1) := by decide +kernel
theorem dX12_findWraps_38 : decode cX12_findWraps 38 = .ok (.getfield 313, 3) := by decide +kernel
theorem dX12_findWraps_41 : decode cX12_findWraps 41 = .ok (.ineg, 1) := by decide +kernel
theorem dX12_findWraps_42 : decode cX12_findWraps 42 = .ok (.aload_n 0, 1) := by decide +kernel
theorem dX12_findWraps_43 : decode cX12_findWraps 43 = .ok (.getfield 316, 3) := by decide +kernel
theorem dX12_findWraps_46 : decode cX12_findWraps 46 = .ok (.invokevirtual 255, 3) := by decide +kernel
theorem dX12_findWraps_49 : decode cX12_findWraps 49 = .ok (.istore_n 3, 1) := by decide +kernel
theorem dX12_findWraps_50 : decode cX12_findWraps 50 = .ok (.iload_n 2, 1) := by decide +kernel
theorem dX12_findWraps_51 : decode cX12_findWraps 51 = .ok (.ifCond .ne 23, 3) := by decide +kernel
theorem dX12_findWraps_54 : decode cX12_findWraps 54 = .ok (.aload_n 0, 1) := by decide +kernel
theorem dX12_findWraps_55 : decode cX12_findWraps 55 = .ok (.aload_n 0, 1) := by decide +kernel
theorem dX12_findWraps_56 : decode cX12_findWraps 56 = .ok (.getfield 19, 3) := by decide +kernel
theorem dX12_findWraps_59 : decode cX12_findWraps 59 = .ok (.iconst 0, 1) := by decide +kernel
theorem dX12_findWraps_60 : decode cX12_findWraps 60 = .ok (.iaload, 1) := by decide +kernel
theorem dX12_findWraps_61 : decode cX12_findWraps 61 = .ok (.putfield 313, 3) := by decide +kernel
theorem dX12_findWraps_64 : decode cX12_findWraps 64 = .ok (.aload_n 0, 1) := by decide +kernel
theorem dX12_findWraps_65 : decode cX12_findWraps 65 = .ok (.aload_n 0, 1) := by decide +kernel
theorem dX12_findWraps_66 : decode cX12_findWraps 66 = .ok (.getfield 22, 3) := by decide +kernel
theorem dX12_findWraps_69 : decode cX12_findWraps 69 = .ok (.iconst 0, 1) := by decide +kernel
theorem dX12_findWraps_70 : decode cX12_findWraps 70 = .ok (.iaload, 1) := by decide +kernel
theorem dX12_findWraps_71 : decode cX12_findWraps 71 = .ok (.putfield 316, 3) := by decide +kernel
theorem dX12_findWraps_74 : decode cX12_findWraps 74 = .ok (.iconst 0, 1) := by decide +kernel
theorem dX12_findWraps_75 : decode cX12_findWraps 75 = .ok (.istore 4, 2) := by decide +kernel
theorem dX12_findWraps_77 : decode cX12_findWraps 77 = .ok (.iload 4, 2) := by decide +kernel
theorem dX12_findWraps_79 : decode cX12_findWraps 79 = .ok (.iconst 4, 1) := by decide +kernel
theorem dX12_findWraps_80 : decode cX12_findWraps 80 = .ok (.aload_n 0, 1) := by decide +kernel
theorem dX12_findWraps_81 : decode cX12_findWraps 81 = .ok (.getfield 195, 3) := by decide +kernel
theorem dX12_findWraps_84 : decode cX12_findWraps 84 = .ok (.imul, 1) := by decide +kernel
theorem dX12_findWraps_85 : decode cX12_findWraps 85 = .ok (.if_icmp .ge 64, 3) := by decide +kernel
theorem dX12_findWraps_88 : decode cX12_findWraps 88 = .ok (.aload_n 0, 1) := by decide +kernel
theorem dX12_findWraps_89 : decode cX12_findWraps 89 = .ok (.iload_n 3, 1) := by decide +kernel
theorem dX12_findWraps_90 : decode cX12_findWraps 90 = .ok (.iload 4, 2) := by decide +kernel
theorem dX12_findWraps_92 : decode cX12_findWraps 92 = .ok (.iconst 4, 1) := by decide +kernel
theorem dX12_findWraps_93 : decode cX12_findWraps 93 = .ok (.idiv, 1) := by decide +kernel
theorem dX12_findWraps_94 : decode cX12_findWraps 94 = .ok (.iload 4, 2) := by decide +kernel
theorem dX12_findWraps_96 : decode cX12_findWraps 96 = .ok (.iconst 4, 1) := by decide +kernel
theorem dX12_findWraps_97 : decode cX12_findWraps 97 = .ok (.irem, 1) := by decide +kernel
theorem dX12_findWraps_98 : decode cX12_findWraps 98 = .ok (.invokevirtual 319, 3) := by decide +kernel
theorem dX12_findWraps_101 : decode cX12_findWraps 101 = .ok (.ifCond .eq 42, 3) := by decide +kernel
theorem dX12_findWraps_104 : decode cX12_findWraps 104 = .ok (.aload_n 0, 1) := by decide +kernel
theorem dX12_findWraps_105 : decode cX12_findWraps 105 = .ok (.getfield 310, 3) := by decide +kernel
theorem dX12_findWraps_108 : decode cX12_findWraps 108 = .ok (.iload_n 1, 1) := by decide +kernel
theorem dX12_findWraps_109 : decode cX12_findWraps 109 = .ok (.if_icmp .ne 24, 3) := by decide +kernel
theorem dX12_findWraps_112 : decode cX12_findWraps 112 = .ok (.aload_n 0, 1) := by decide +kernel
theorem dX12_findWraps_113 : decode cX12_findWraps 113 = .ok (.iload 4, 2) := by decide +kernel
theorem dX12_findWraps_115 : decode cX12_findWraps 115 = .ok (.iconst 4, 1) := by decide +kernel
theorem dX12_findWraps_116 : decode cX12_findWraps 116 = .ok (.idiv, 1) := by decide +kernel
theorem dX12_findWraps_117 : decode cX12_findWraps 117 = .ok (.putfield 322, 3) := by decide +kernel
theorem dX12_findWraps_120 : decode cX12_findWraps 120 = .ok (.aload_n 0, 1) := by decide +kernel
theorem dX12_findWraps_121 : decode cX12_findWraps 121 = .ok (.iload 4, 2) := by decide +kernel
theorem dX12_findWraps_123 : decode cX12_findWraps 123 = .ok (.iconst 4, 1) := by decide +kernel
theorem dX12_findWraps_124 : decode cX12_findWraps 124 = .ok (.irem, 1) := by decide +kernel
theorem dX12_findWraps_125 : decode cX12_findWraps 125 = .ok (.putfield 325, 3) := by decide +kernel
theorem dX12_findWraps_128 : decode cX12_findWraps 128 = .ok (.aload_n 0, 1) := by decide +kernel
theorem dX12_findWraps_129 : decode cX12_findWraps 129 = .ok (.iload_n 2, 1) := by decide +kernel
theorem dX12_findWraps_130 : decode cX12_findWraps 130 = .ok (.putfield 328, 3) := by decide +kernel
theorem dX12_findWraps_133 : decode cX12_findWraps 133 = .ok (.aload_n 0, 1) := by decide +kernel
theorem dX12_findWraps_134 : decode cX12_findWraps 134 = .ok (.dup, 1) := by decide +kernel
theorem dX12_findWraps_135 : decode cX12_findWraps 135 = .ok (.getfield 310, 3) := by decide +kernel
theorem dX12_findWraps_138 : decode cX12_findWraps 138 = .ok (.iconst 1, 1) := by decide +kernel
theorem dX12_findWraps_139 : decode cX12_findWraps 139 = .ok (.iadd, 1) := by decide +kernel
theorem dX12_findWraps_140 : decode cX12_findWraps 140 = .ok (.putfield 310, 3) := by decide +kernel
theorem dX12_findWraps_143 : decode cX12_findWraps 143 = .ok (.iinc 4 1, 3) := by decide +kernel
theorem dX12_findWraps_146 : decode cX12_findWraps 146 = .ok (.goto (-69), 3) := by decide +kernel
theorem dX12_findWraps_149 : decode cX12_findWraps 149 = .ok (.aload_n 0, 1) := by decide +kernel
theorem dX12_findWraps_150 : decode cX12_findWraps 150 = .ok (.iconst 1, 1) := by decide +kernel
theorem dX12_findWraps_151 : decode cX12_findWraps 151 = .ok (.invokevirtual 275, 3) := by decide +kernel
theorem dX12_findWraps_154 : decode cX12_findWraps 154 = .ok (.iinc 2 1, 3) := by decide +kernel
theorem dX12_findWraps_157 : decode cX12_findWraps 157 = .ok (.goto (-134), 3) := by decide +kernel
theorem dX12_findWraps_160 : decode cX12_findWraps 160 = .ok (.return_, 1) := by decide +kernel
theorem dX12_wraps_0 : decode cX12_wraps 0 = .ok (.aload_n 0, 1) := by decide +kernel
theorem dX12_wraps_1 : decode cX12_wraps 1 = .ok (.iconst 0, 1) := by decide +kernel
theorem dX12_wraps_2 : decode cX12_wraps 2 = .ok (.putfield 113, 3) := by decide +kernel
theorem dX12_wraps_5 : decode cX12_wraps 5 = .ok (.aload_n 0, 1) := by decide +kernel
theorem dX12_wraps_6 : decode cX12_wraps 6 = .ok (.invokevirtual 182, 3) := by decide +kernel
theorem dX12_wraps_9 : decode cX12_wraps 9 = .ok (.ifCond .eq 6, 3) := by decide +kernel
theorem dX12_wraps_12 : decode cX12_wraps 12 = .ok (.bipush (-4), 2) := by decide +kernel
theorem dX12_wraps_14 : decode cX12_wraps 14 = .ok (.ireturn, 1) := by decide +kernel
theorem dX12_wraps_15 : decode cX12_wraps 15 = .ok (.aload_n 0, 1) := by decide +kernel
theorem dX12_wraps_16 : decode cX12_wraps 16 = .ok (.iconst (-1), 1) := by decide +kernel
theorem dX12_wraps_17 : decode cX12_wraps 17 = .ok (.invokevirtual 331, 3) := by decide +kernel
theorem dX12_wraps_20 : decode cX12_wraps 20 = .ok (.aload_n 0, 1) := by decide +kernel
theorem dX12_wraps_21 : decode cX12_wraps 21 = .ok (.getfield 310, 3) := by decide +kernel
theorem dX12_wraps_24 : decode cX12_wraps 24 = .ok (.ireturn, 1) := by decide +kernel
theorem dX12_way_0 : decode cX12_way 0 = .ok (.aload_n 0, 1) := by decide +kernel
theorem dX12_way_1 : decode cX12_way 1 = .ok (.iconst 0, 1) := by decide +kernel
theorem dX12_way_2 : decode cX12_way 2 = .ok (.putfield 113, 3) := by decide +kernel
theorem dX12_way_5 : decode cX12_way 5 = .ok (.iload_n 1, 1) := by decide +kernel
theorem dX12_way_6 : decode cX12_way 6 = .ok (.ifCond .lt 12, 3) := by decide +kernel
theorem dX12_way_9 : decode cX12_way 9 = .ok (.iload_n 2, 1) := by decide +kernel
theorem dX12_way_10 : decode cX12_way 10 = .ok (.iconst 0, 1) := by decide +kernel
theorem dX12_way_11 : decode cX12_way 11 = .ok (.iconst 2, 1) := by decide +kernel
theorem dX12_way_12 : decode cX12_way 12 = .ok (.invokestatic 139, 3) := by decide +kernel
theorem dX12_way_15 : decode cX12_way 15 = .ok (.ifCond .ne 6, 3) := by decide +kernel
theorem dX12_way_18 : decode cX12_way 18 = .ok (.bipush (-3), 2) := by decide +kernel
theorem dX12_way_20 : decode cX12_way 20 = .ok (.ireturn, 1) := by decide +kernel
theorem dX12_way_21 : decode cX12_way 21 = .ok (.aload_n 0, 1) := by decide +kernel
theorem dX12_way_22 : decode cX12_way 22 = .ok (.invokevirtual 182, 3) := by decide +kernel
theorem dX12_way_25 : decode cX12_way 25 = .ok (.ifCond .eq 6, 3) := by decide +kernel
theorem dX12_way_28 : decode cX12_way 28 = .ok (.bipush (-4), 2) := by decide +kernel
theorem dX12_way_30 : decode cX12_way 30 = .ok (.ireturn, 1) := by decide +kernel
theorem dX12_way_31 : decode cX12_way 31 = .ok (.aload_n 0, 1) := by decide +kernel
theorem dX12_way_32 : decode cX12_way 32 = .ok (.iload_n 1, 1) := by decide +kernel
theorem dX12_way_33 : decode cX12_way 33 = .ok (.invokevirtual 331, 3) := by decide +kernel
theorem dX12_way_36 : decode cX12_way 36 = .ok (.iload_n 1, 1) := by decide +kernel
theorem dX12_way_37 : decode cX12_way 37 = .ok (.aload_n 0, 1) := by decide +kernel
theorem dX12_way_38 : decode cX12_way 38 = .ok (.getfield 310, 3) := by decide +kernel
theorem dX12_way_41 : decode cX12_way 41 = .ok (.if_icmp .lt 7, 3) := by decide +kernel
theorem dX12_way_44 : decode cX12_way 44 = .ok (.iconst (-1), 1) := by decide +kernel
theorem dX12_way_45 : decode cX12_way 45 = .ok (.goto 30, 3) := by decide +kernel
theorem dX12_way_48 : decode cX12_way 48 = .ok (.iload_n 2, 1) := by decide +kernel
theorem dX12_way_49 : decode cX12_way 49 = .ok (.ifCond .ne 10, 3) := by decide +kernel
theorem dX12_way_52 : decode cX12_way 52 = .ok (.aload_n 0, 1) := by decide +kernel
theorem dX12_way_53 : decode cX12_way 53 = .ok (.getfield 322, 3) := by decide +kernel
theorem dX12_way_56 : decode cX12_way 56 = .ok (.goto 19, 3) := by decide +kernel
theorem dX12_way_59 : decode cX12_way 59 = .ok (.iload_n 2, 1) := by decide +kernel
theorem dX12_way_60 : decode cX12_way 60 = .ok (.iconst 1, 1) := by decide +kernel
theorem dX12_way_61 : decode cX12_way 61 = .ok (.if_icmp .ne 10, 3) := by decide +kernel
theorem dX12_way_64 : decode cX12_way 64 = .ok (.aload_n 0, 1) := by decide +kernel
theorem dX12_way_65 : decode cX12_way 65 = .ok (.getfield 325, 3) := by decide +kernel
theorem dX12_way_68 : decode cX12_way 68 = .ok (.goto 7, 3) := by decide +kernel
theorem dX12_way_71 : decode cX12_way 71 = .ok (.aload_n 0, 1) := by decide +kernel
theorem dX12_way_72 : decode cX12_way 72 = .ok (.getfield 328, 3) := by decide +kernel
theorem dX12_way_75 : decode cX12_way 75 = .ok (.ireturn, 1) := by decide +kernel
theorem dX12_count_0 : decode cX12_count 0 = .ok (.aload_n 0, 1) := by decide +kernel
theorem dX12_count_1 : decode cX12_count 1 = .ok (.iconst 0, 1) := by decide +kernel
theorem dX12_count_2 : decode cX12_count 2 = .ok (.putfield 113, 3) := by decide +kernel
theorem dX12_count_5 : decode cX12_count 5 = .ok (.iload_n 1, 1) := by decide +kernel
theorem dX12_count_6 : decode cX12_count 6 = .ok (.tableswitch 101 0 4 #[34, 58, 86, 91, 96], 34) := by decide +kernel
theorem dX12_count_40 : decode cX12_count 40 = .ok (.aload_n 0, 1) := by decide +kernel
theorem dX12_count_41 : decode cX12_count 41 = .ok (.iconst 0, 1) := by decide +kernel
theorem dX12_count_42 : decode cX12_count 42 = .ok (.invokevirtual 146, 3) := by decide +kernel
theorem dX12_count_45 : decode cX12_count 45 = .ok (.aload_n 0, 1) := by decide +kernel
theorem dX12_count_46 : decode cX12_count 46 = .ok (.iconst 1, 1) := by decide +kernel
theorem dX12_count_47 : decode cX12_count 47 = .ok (.invokevirtual 146, 3) := by decide +kernel
theorem dX12_count_50 : decode cX12_count 50 = .ok (.iadd, 1) := by decide +kernel
theorem dX12_count_51 : decode cX12_count 51 = .ok (.aload_n 0, 1) := by decide +kernel
theorem dX12_count_52 : decode cX12_count 52 = .ok (.iconst 2, 1) := by decide +kernel
theorem dX12_count_53 : decode cX12_count 53 = .ok (.invokevirtual 146, 3) := by decide +kernel
theorem dX12_count_56 : decode cX12_count 56 = .ok (.iadd, 1) := by decide +kernel
theorem dX12_count_57 : decode cX12_count 57 = .ok (.aload_n 0, 1) := by decide +kernel
theorem dX12_count_58 : decode cX12_count 58 = .ok (.iconst 3, 1) := by decide +kernel
theorem dX12_count_59 : decode cX12_count 59 = .ok (.invokevirtual 146, 3) := by decide +kernel
theorem dX12_count_62 : decode cX12_count 62 = .ok (.iadd, 1) := by decide +kernel
theorem dX12_count_63 : decode cX12_count 63 = .ok (.ireturn, 1) := by decide +kernel
theorem dX12_count_64 : decode cX12_count 64 = .ok (.aload_n 0, 1) := by decide +kernel
theorem dX12_count_65 : decode cX12_count 65 = .ok (.getfield 7, 3) := by decide +kernel
theorem dX12_count_68 : decode cX12_count 68 = .ok (.iconst 0, 1) := by decide +kernel
theorem dX12_count_69 : decode cX12_count 69 = .ok (.iaload, 1) := by decide +kernel
theorem dX12_count_70 : decode cX12_count 70 = .ok (.aload_n 0, 1) := by decide +kernel
theorem dX12_count_71 : decode cX12_count 71 = .ok (.getfield 7, 3) := by decide +kernel
theorem dX12_count_74 : decode cX12_count 74 = .ok (.iconst 1, 1) := by decide +kernel
theorem dX12_count_75 : decode cX12_count 75 = .ok (.iaload, 1) := by decide +kernel
theorem dX12_count_76 : decode cX12_count 76 = .ok (.iadd, 1) := by decide +kernel
theorem dX12_count_77 : decode cX12_count 77 = .ok (.aload_n 0, 1) := by decide +kernel
theorem dX12_count_78 : decode cX12_count 78 = .ok (.getfield 7, 3) := by decide +kernel
theorem dX12_count_81 : decode cX12_count 81 = .ok (.iconst 2, 1) := by decide +kernel
theorem dX12_count_82 : decode cX12_count 82 = .ok (.iaload, 1) := by decide +kernel
theorem dX12_count_83 : decode cX12_count 83 = .ok (.iadd, 1) := by decide +kernel
theorem dX12_count_84 : decode cX12_count 84 = .ok (.aload_n 0, 1) := by decide +kernel
theorem dX12_count_85 : decode cX12_count 85 = .ok (.getfield 7, 3) := by decide +kernel
theorem dX12_count_88 : decode cX12_count 88 = .ok (.iconst 3, 1) := by decide +kernel
theorem dX12_count_89 : decode cX12_count 89 = .ok (.iaload, 1) := by decide +kernel
theorem dX12_count_90 : decode cX12_count 90 = .ok (.iadd, 1) := by decide +kernel
theorem dX12_count_91 : decode cX12_count 91 = .ok (.ireturn, 1) := by decide +kernel
theorem dX12_count_92 : decode cX12_count 92 = .ok (.aload_n 0, 1) := by decide +kernel
theorem dX12_count_93 : decode cX12_count 93 = .ok (.getfield 127, 3) := by decide +kernel
theorem dX12_count_96 : decode cX12_count 96 = .ok (.ireturn, 1) := by decide +kernel
theorem dX12_count_97 : decode cX12_count 97 = .ok (.aload_n 0, 1) := by decide +kernel
theorem dX12_count_98 : decode cX12_count 98 = .ok (.invokevirtual 245, 3) := by decide +kernel
theorem dX12_count_101 : decode cX12_count 101 = .ok (.ireturn, 1) := by decide +kernel
theorem dX12_count_102 : decode cX12_count 102 = .ok (.aload_n 0, 1) := by decide +kernel
theorem dX12_count_103 : decode cX12_count 103 = .ok (.getfield 130, 3) := by decide +kernel
theorem dX12_count_106 : decode cX12_count 106 = .ok (.ireturn, 1) := by decide +kernel
theorem dX12_count_107 : decode cX12_count 107 = .ok (.bipush (-3), 2) := by decide +kernel
theorem dX12_count_109 : decode cX12_count 109 = .ok (.ireturn, 1) := by decide +kernel
theorem dJ6_bitCount_0f7a4_0 : decode cJ6_bitCount_0f7a4 0 = .ok (.iload_n 0, 1) := by decide +kernel
theorem dJ6_bitCount_0f7a4_1 : decode cJ6_bitCount_0f7a4 1 = .ok (.iload_n 0, 1) := by decide +kernel
theorem dJ6_bitCount_0f7a4_2 : decode cJ6_bitCount_0f7a4 2 = .ok (.iconst 1, 1) := by decide +kernel
theorem dJ6_bitCount_0f7a4_3 : decode cJ6_bitCount_0f7a4 3 = .ok (.iushr, 1) := by decide +kernel
theorem dJ6_bitCount_0f7a4_4 : decode cJ6_bitCount_0f7a4 4 = .ok (.ldc_w 265, 3) := by decide +kernel
theorem dJ6_bitCount_0f7a4_7 : decode cJ6_bitCount_0f7a4 7 = .ok (.iand, 1) := by decide +kernel
theorem dJ6_bitCount_0f7a4_8 : decode cJ6_bitCount_0f7a4 8 = .ok (.isub, 1) := by decide +kernel
theorem dJ6_bitCount_0f7a4_9 : decode cJ6_bitCount_0f7a4 9 = .ok (.istore_n 0, 1) := by decide +kernel
theorem dJ6_bitCount_0f7a4_10 : decode cJ6_bitCount_0f7a4 10 = .ok (.iload_n 0, 1) := by decide +kernel
theorem dJ6_bitCount_0f7a4_11 : decode cJ6_bitCount_0f7a4 11 = .ok (.ldc_w 266, 3) := by decide +kernel
theorem dJ6_bitCount_0f7a4_14 : decode cJ6_bitCount_0f7a4 14 = .ok (.iand, 1) := by decide +kernel
theorem dJ6_bitCount_0f7a4_15 : decode cJ6_bitCount_0f7a4 15 = .ok (.iload_n 0, 1) := by decide +kernel
theorem dJ6_bitCount_0f7a4_16 : decode cJ6_bitCount_0f7a4 16 = .ok (.iconst 2, 1) := by decide +kernel
theorem dJ6_bitCount_0f7a4_17 : decode cJ6_bitCount_0f7a4 17 = .ok (.iushr, 1) := by decide +kernel
theorem dJ6_bitCount_0f7a4_18 : decode cJ6_bitCount_0f7a4 18 = .ok (.ldc_w 266, 3) := by decide +kernel
theorem dJ6_bitCount_0f7a4_21 : decode cJ6_bitCount_0f7a4 21 = .ok (.iand, 1) := by decide +kernel
theorem dJ6_bitCount_0f7a4_22 : decode cJ6_bitCount_0f7a4 22 = .ok (.iadd, 1) := by decide +kernel
theorem dJ6_bitCount_0f7a4_23 : decode cJ6_bitCount_0f7a4 23 = .ok (.istore_n 0, 1) := by decide +kernel
theorem dJ6_bitCount_0f7a4_24 : decode cJ6_bitCount_0f7a4 24 = .ok (.iload_n 0, 1) := by decide +kernel
theorem dJ6_bitCount_0f7a4_25 : decode cJ6_bitCount_0f7a4 25 = .ok (.iload_n 0, 1) := by decide +kernel
theorem dJ6_bitCount_0f7a4_26 : decode cJ6_bitCount_0f7a4 26 = .ok (.iconst 4, 1) := by decide +kernel
theorem dJ6_bitCount_0f7a4_27 : decode cJ6_bitCount_0f7a4 27 = .ok (.iushr, 1) := by decide +kernel
theorem dJ6_bitCount_0f7a4_28 : decode cJ6_bitCount_0f7a4 28 = .ok (.iadd, 1) := by decide +kernel
theorem dJ6_bitCount_0f7a4_29 : decode cJ6_bitCount_0f7a4 29 = .ok (.ldc_w 267, 3) := by decide +kernel
theorem dJ6_bitCount_0f7a4_32 : decode cJ6_bitCount_0f7a4 32 = .ok (.iand, 1) := by decide +kernel
theorem dJ6_bitCount_0f7a4_33 : decode cJ6_bitCount_0f7a4 33 = .ok (.istore_n 0, 1) := by decide +kernel
theorem dJ6_bitCount_0f7a4_34 : decode cJ6_bitCount_0f7a4 34 = .ok (.iload_n 0, 1) := by decide +kernel
theorem dJ6_bitCount_0f7a4_35 : decode cJ6_bitCount_0f7a4 35 = .ok (.iload_n 0, 1) := by decide +kernel
theorem dJ6_bitCount_0f7a4_36 : decode cJ6_bitCount_0f7a4 36 = .ok (.bipush 8, 2) := by decide +kernel
theorem dJ6_bitCount_0f7a4_38 : decode cJ6_bitCount_0f7a4 38 = .ok (.iushr, 1) := by decide +kernel
theorem dJ6_bitCount_0f7a4_39 : decode cJ6_bitCount_0f7a4 39 = .ok (.iadd, 1) := by decide +kernel
theorem dJ6_bitCount_0f7a4_40 : decode cJ6_bitCount_0f7a4 40 = .ok (.istore_n 0, 1) := by decide +kernel
theorem dJ6_bitCount_0f7a4_41 : decode cJ6_bitCount_0f7a4 41 = .ok (.iload_n 0, 1) := by decide +kernel
theorem dJ6_bitCount_0f7a4_42 : decode cJ6_bitCount_0f7a4 42 = .ok (.iload_n 0, 1) := by decide +kernel
theorem dJ6_bitCount_0f7a4_43 : decode cJ6_bitCount_0f7a4 43 = .ok (.bipush 16, 2) := by decide +kernel
theorem dJ6_bitCount_0f7a4_45 : decode cJ6_bitCount_0f7a4 45 = .ok (.iushr, 1) := by decide +kernel
theorem dJ6_bitCount_0f7a4_46 : decode cJ6_bitCount_0f7a4 46 = .ok (.iadd, 1) := by decide +kernel
theorem dJ6_bitCount_0f7a4_47 : decode cJ6_bitCount_0f7a4 47 = .ok (.istore_n 0, 1) := by decide +kernel
theorem dJ6_bitCount_0f7a4_48 : decode cJ6_bitCount_0f7a4 48 = .ok (.iload_n 0, 1) := by decide +kernel
theorem dJ6_bitCount_0f7a4_49 : decode cJ6_bitCount_0f7a4 49 = .ok (.bipush 63, 2) := by decide +kernel
theorem dJ6_bitCount_0f7a4_51 : decode cJ6_bitCount_0f7a4 51 = .ok (.iand, 1) := by decide +kernel
theorem dJ6_bitCount_0f7a4_52 : decode cJ6_bitCount_0f7a4 52 = .ok (.ireturn, 1) := by decide +kernel
theorem dJ13_bitCount_95d88_0 : decode cJ13_bitCount_95d88 0 = .ok (.lload_n 0, 1) := by decide +kernel
theorem dJ13_bitCount_95d88_1 : decode cJ13_bitCount_95d88 1 = .ok (.lload_n 0, 1) := by decide +kernel
theorem dJ13_bitCount_95d88_2 : decode cJ13_bitCount_95d88 2 = .ok (.iconst 1, 1) := by decide +kernel
theorem dJ13_bitCount_95d88_3 : decode cJ13_bitCount_95d88 3 = .ok (.lushr, 1) := by decide +kernel
theorem dJ13_bitCount_95d88_4 : decode cJ13_bitCount_95d88 4 = .ok (.ldc2_w 314, 3) := by decide +kernel
theorem dJ13_bitCount_95d88_7 : decode cJ13_bitCount_95d88 7 = .ok (.land, 1) := by decide +kernel
theorem dJ13_bitCount_95d88_8 : decode cJ13_bitCount_95d88 8 = .ok (.lsub, 1) := by decide +kernel
theorem dJ13_bitCount_95d88_9 : decode cJ13_bitCount_95d88 9 = .ok (.lstore_n 0, 1) := by decide +kernel
theorem dJ13_bitCount_95d88_10 : decode cJ13_bitCount_95d88 10 = .ok (.lload_n 0, 1) := by decide +kernel
theorem dJ13_bitCount_95d88_11 : decode cJ13_bitCount_95d88 11 = .ok (.ldc2_w 316, 3) := by decide +kernel
theorem dJ13_bitCount_95d88_14 : decode cJ13_bitCount_95d88 14 = .ok (.land, 1) := by decide +kernel
theorem dJ13_bitCount_95d88_15 : decode cJ13_bitCount_95d88 15 = .ok (.lload_n 0, 1) := by decide +kernel
theorem dJ13_bitCount_95d88_16 : decode cJ13_bitCount_95d88 16 = .ok (.iconst 2, 1) := by decide +kernel
theorem dJ13_bitCount_95d88_17 : decode cJ13_bitCount_95d88 17 = .ok (.lushr, 1) := by decide +kernel
theorem dJ13_bitCount_95d88_18 : decode cJ13_bitCount_95d88 18 = .ok (.ldc2_w 316, 3) := by decide +kernel
theorem dJ13_bitCount_95d88_21 : decode cJ13_bitCount_95d88 21 = .ok (.land, 1) := by decide +kernel
theorem dJ13_bitCount_95d88_22 : decode cJ13_bitCount_95d88 22 = .ok (.ladd, 1) := by decide +kernel
theorem dJ13_bitCount_95d88_23 : decode cJ13_bitCount_95d88 23 = .ok (.lstore_n 0, 1) := by decide +kernel
theorem dJ13_bitCount_95d88_24 : decode cJ13_bitCount_95d88 24 = .ok (.lload_n 0, 1) := by decide +kernel
theorem dJ13_bitCount_95d88_25 : decode cJ13_bitCount_95d88 25 = .ok (.lload_n 0, 1) := by decide +kernel
theorem dJ13_bitCount_95d88_26 : decode cJ13_bitCount_95d88 26 = .ok (.iconst 4, 1) := by decide +kernel
theorem dJ13_bitCount_95d88_27 : decode cJ13_bitCount_95d88 27 = .ok (.lushr, 1) := by decide +kernel
theorem dJ13_bitCount_95d88_28 : decode cJ13_bitCount_95d88 28 = .ok (.ladd, 1) := by decide +kernel
theorem dJ13_bitCount_95d88_29 : decode cJ13_bitCount_95d88 29 = .ok (.ldc2_w 318, 3) := by decide +kernel
theorem dJ13_bitCount_95d88_32 : decode cJ13_bitCount_95d88 32 = .ok (.land, 1) := by decide +kernel
theorem dJ13_bitCount_95d88_33 : decode cJ13_bitCount_95d88 33 = .ok (.lstore_n 0, 1) := by decide +kernel
theorem dJ13_bitCount_95d88_34 : decode cJ13_bitCount_95d88 34 = .ok (.lload_n 0, 1) := by decide +kernel
theorem dJ13_bitCount_95d88_35 : decode cJ13_bitCount_95d88 35 = .ok (.lload_n 0, 1) := by decide +kernel
theorem dJ13_bitCount_95d88_36 : decode cJ13_bitCount_95d88 36 = .ok (.bipush 8, 2) := by decide +kernel
theorem dJ13_bitCount_95d88_38 : decode cJ13_bitCount_95d88 38 = .ok (.lushr, 1) := by decide +kernel
theorem dJ13_bitCount_95d88_39 : decode cJ13_bitCount_95d88 39 = .ok (.ladd, 1) := by decide +kernel
theorem dJ13_bitCount_95d88_40 : decode cJ13_bitCount_95d88 40 = .ok (.lstore_n 0, 1) := by decide +kernel
theorem dJ13_bitCount_95d88_41 : decode cJ13_bitCount_95d88 41 = .ok (.lload_n 0, 1) := by decide +kernel
theorem dJ13_bitCount_95d88_42 : decode cJ13_bitCount_95d88 42 = .ok (.lload_n 0, 1) := by decide +kernel
theorem dJ13_bitCount_95d88_43 : decode cJ13_bitCount_95d88 43 = .ok (.bipush 16, 2) := by decide +kernel
theorem dJ13_bitCount_95d88_45 : decode cJ13_bitCount_95d88 45 = .ok (.lushr, 1) := by decide +kernel
theorem dJ13_bitCount_95d88_46 : decode cJ13_bitCount_95d88 46 = .ok (.ladd, 1) := by decide +kernel
theorem dJ13_bitCount_95d88_47 : decode cJ13_bitCount_95d88 47 = .ok (.lstore_n 0, 1) := by decide +kernel
theorem dJ13_bitCount_95d88_48 : decode cJ13_bitCount_95d88 48 = .ok (.lload_n 0, 1) := by decide +kernel
theorem dJ13_bitCount_95d88_49 : decode cJ13_bitCount_95d88 49 = .ok (.lload_n 0, 1) := by decide +kernel
theorem dJ13_bitCount_95d88_50 : decode cJ13_bitCount_95d88 50 = .ok (.bipush 32, 2) := by decide +kernel
theorem dJ13_bitCount_95d88_52 : decode cJ13_bitCount_95d88 52 = .ok (.lushr, 1) := by decide +kernel
theorem dJ13_bitCount_95d88_53 : decode cJ13_bitCount_95d88 53 = .ok (.ladd, 1) := by decide +kernel
theorem dJ13_bitCount_95d88_54 : decode cJ13_bitCount_95d88 54 = .ok (.lstore_n 0, 1) := by decide +kernel
theorem dJ13_bitCount_95d88_55 : decode cJ13_bitCount_95d88 55 = .ok (.lload_n 0, 1) := by decide +kernel
theorem dJ13_bitCount_95d88_56 : decode cJ13_bitCount_95d88 56 = .ok (.l2i, 1) := by decide +kernel
theorem dJ13_bitCount_95d88_57 : decode cJ13_bitCount_95d88 57 = .ok (.bipush 127, 2) := by decide +kernel
theorem dJ13_bitCount_95d88_59 : decode cJ13_bitCount_95d88 59 = .ok (.iand, 1) := by decide +kernel
theorem dJ13_bitCount_95d88_60 : decode cJ13_bitCount_95d88 60 = .ok (.ireturn, 1) := by decide +kernel
theorem dJ9_abs_0f7a4_0 : decode cJ9_abs_0f7a4 0 = .ok (.iload_n 0, 1) := by decide +kernel
theorem dJ9_abs_0f7a4_1 : decode cJ9_abs_0f7a4 1 = .ok (.ifCond .ge 8, 3) := by decide +kernel
theorem dJ9_abs_0f7a4_4 : decode cJ9_abs_0f7a4 4 = .ok (.iload_n 0, 1) := by decide +kernel
theorem dJ9_abs_0f7a4_5 : decode cJ9_abs_0f7a4 5 = .ok (.ineg, 1) := by decide +kernel
theorem dJ9_abs_0f7a4_6 : decode cJ9_abs_0f7a4 6 = .ok (.goto 4, 3) := by decide +kernel
theorem dJ9_abs_0f7a4_9 : decode cJ9_abs_0f7a4 9 = .ok (.iload_n 0, 1) := by decide +kernel
theorem dJ9_abs_0f7a4_10 : decode cJ9_abs_0f7a4 10 = .ok (.ireturn, 1) := by decide +kernel
theorem dJ9_min_7cf53_0 : decode cJ9_min_7cf53 0 = .ok (.iload_n 0, 1) := by decide +kernel
