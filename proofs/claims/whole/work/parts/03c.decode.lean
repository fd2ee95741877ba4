theorem dX12_init_281 : decode cX12_init 281 = .ok (.aload_n 0, 1) := by decide +kernel
theorem dX12_init_282 : decode cX12_init 282 = .ok (.bipush 60, 2) := by decide +kernel
theorem dX12_init_284 : decode cX12_init 284 = .ok (.newarray .int, 2) := by decide +kernel
theorem dX12_init_286 : decode cX12_init 286 = .ok (.putfield 110, 3) := by decide +kernel
theorem dX12_init_289 : decode cX12_init 289 = .ok (.return_, 1) := by decide +kernel
theorem dX12_in_0 : decode cX12_in 0 = .ok (.iload_n 0, 1) := by decide +kernel
theorem dX12_in_1 : decode cX12_in 1 = .ok (.iload_n 1, 1) := by decide +kernel
theorem dX12_in_2 : decode cX12_in 2 = .ok (.if_icmp .lt 12, 3) := by decide +kernel
theorem dX12_in_5 : decode cX12_in 5 = .ok (.iload_n 0, 1) := by decide +kernel
theorem dX12_in_6 : decode cX12_in 6 = .ok (.iload_n 2, 1) := by decide +kernel
theorem dX12_in_7 : decode cX12_in 7 = .ok (.if_icmp .gt 7, 3) := by decide +kernel
theorem dX12_in_10 : decode cX12_in 10 = .ok (.iconst 1, 1) := by decide +kernel
theorem dX12_in_11 : decode cX12_in 11 = .ok (.goto 4, 3) := by decide +kernel
theorem dX12_in_14 : decode cX12_in 14 = .ok (.iconst 0, 1) := by decide +kernel
theorem dX12_in_15 : decode cX12_in 15 = .ok (.ireturn, 1) := by decide +kernel
theorem dX12_write_0 : decode cX12_write 0 = .ok (.iconst 0, 1) := by decide +kernel
theorem dX12_write_1 : decode cX12_write 1 = .ok (.istore_n 3, 1) := by decide +kernel
theorem dX12_write_2 : decode cX12_write 2 = .ok (.iload_n 3, 1) := by decide +kernel
theorem dX12_write_3 : decode cX12_write 3 = .ok (.iload_n 2, 1) := by decide +kernel
theorem dX12_write_4 : decode cX12_write 4 = .ok (.if_icmp .ge 31, 3) := by decide +kernel
theorem dX12_write_7 : decode cX12_write 7 = .ok (.aload_n 0, 1) := by decide +kernel
theorem dX12_write_8 : decode cX12_write 8 = .ok (.getfield 37, 3) := by decide +kernel
theorem dX12_write_11 : decode cX12_write 11 = .ok (.aload_n 0, 1) := by decide +kernel
theorem dX12_write_12 : decode cX12_write 12 = .ok (.getfield 117, 3) := by decide +kernel
theorem dX12_write_15 : decode cX12_write 15 = .ok (.aload_n 1, 1) := by decide +kernel
theorem dX12_write_16 : decode cX12_write 16 = .ok (.iload_n 3, 1) := by decide +kernel
theorem dX12_write_17 : decode cX12_write 17 = .ok (.iaload, 1) := by decide +kernel
theorem dX12_write_18 : decode cX12_write 18 = .ok (.iastore, 1) := by decide +kernel
theorem dX12_write_19 : decode cX12_write 19 = .ok (.aload_n 0, 1) := by decide +kernel
theorem dX12_write_20 : decode cX12_write 20 = .ok (.dup, 1) := by decide +kernel
theorem dX12_write_21 : decode cX12_write 21 = .ok (.getfield 117, 3) := by decide +kernel
theorem dX12_write_24 : decode cX12_write 24 = .ok (.iconst 1, 1) := by decide +kernel
theorem dX12_write_25 : decode cX12_write 25 = .ok (.iadd, 1) := by decide +kernel
theorem dX12_write_26 : decode cX12_write 26 = .ok (.putfield 117, 3) := by decide +kernel
theorem dX12_write_29 : decode cX12_write 29 = .ok (.iinc 3 1, 3) := by decide +kernel
theorem dX12_write_32 : decode cX12_write 32 = .ok (.goto (-30), 3) := by decide +kernel
theorem dX12_write_35 : decode cX12_write 35 = .ok (.return_, 1) := by decide +kernel
theorem dX12_read_0 : decode cX12_read 0 = .ok (.iconst 0, 1) := by decide +kernel
theorem dX12_read_1 : decode cX12_read 1 = .ok (.istore_n 3, 1) := by decide +kernel
theorem dX12_read_2 : decode cX12_read 2 = .ok (.iload_n 3, 1) := by decide +kernel
theorem dX12_read_3 : decode cX12_read 3 = .ok (.iload_n 2, 1) := by decide +kernel
theorem dX12_read_4 : decode cX12_read 4 = .ok (.if_icmp .ge 31, 3) := by decide +kernel
theorem dX12_read_7 : decode cX12_read 7 = .ok (.aload_n 1, 1) := by decide +kernel
theorem dX12_read_8 : decode cX12_read 8 = .ok (.iload_n 3, 1) := by decide +kernel
theorem dX12_read_9 : decode cX12_read 9 = .ok (.aload_n 0, 1) := by decide +kernel
theorem dX12_read_10 : decode cX12_read 10 = .ok (.getfield 37, 3) := by decide +kernel
theorem dX12_read_13 : decode cX12_read 13 = .ok (.aload_n 0, 1) := by decide +kernel
theorem dX12_read_14 : decode cX12_read 14 = .ok (.getfield 117, 3) := by decide +kernel
theorem dX12_read_17 : decode cX12_read 17 = .ok (.iaload, 1) := by decide +kernel
theorem dX12_read_18 : decode cX12_read 18 = .ok (.iastore, 1) := by decide +kernel
theorem dX12_read_19 : decode cX12_read 19 = .ok (.aload_n 0, 1) := by decide +kernel
theorem dX12_read_20 : decode cX12_read 20 = .ok (.dup, 1) := by decide +kernel
theorem dX12_read_21 : decode cX12_read 21 = .ok (.getfield 117, 3) := by decide +kernel
theorem dX12_read_24 : decode cX12_read 24 = .ok (.iconst 1, 1) := by decide +kernel
theorem dX12_read_25 : decode cX12_read 25 = .ok (.iadd, 1) := by decide +kernel
theorem dX12_read_26 : decode cX12_read 26 = .ok (.putfield 117, 3) := by decide +kernel
theorem dX12_read_29 : decode cX12_read 29 = .ok (.iinc 3 1, 3) := by decide +kernel
theorem dX12_read_32 : decode cX12_read 32 = .ok (.goto (-30), 3) := by decide +kernel
theorem dX12_read_35 : decode cX12_read 35 = .ok (.return_, 1) := by decide +kernel
theorem dX12_keep_0 : decode cX12_keep 0 = .ok (.aload_n 0, 1) := by decide +kernel
theorem dX12_keep_1 : decode cX12_keep 1 = .ok (.sipush 1860, 3) := by decide +kernel
theorem dX12_keep_4 : decode cX12_keep 4 = .ok (.aload_n 0, 1) := by decide +kernel
theorem dX12_keep_5 : decode cX12_keep 5 = .ok (.getfield 120, 3) := by decide +kernel
theorem dX12_keep_8 : decode cX12_keep 8 = .ok (.imul, 1) := by decide +kernel
theorem dX12_keep_9 : decode cX12_keep 9 = .ok (.putfield 117, 3) := by decide +kernel
theorem dX12_keep_12 : decode cX12_keep 12 = .ok (.aload_n 0, 1) := by decide +kernel
theorem dX12_keep_13 : decode cX12_keep 13 = .ok (.aload_n 0, 1) := by decide +kernel
theorem dX12_keep_14 : decode cX12_keep 14 = .ok (.getfield 7, 3) := by decide +kernel
theorem dX12_keep_17 : decode cX12_keep 17 = .ok (.iconst 4, 1) := by decide +kernel
theorem dX12_keep_18 : decode cX12_keep 18 = .ok (.invokevirtual 123, 3) := by decide +kernel
theorem dX12_keep_21 : decode cX12_keep 21 = .ok (.aload_n 0, 1) := by decide +kernel
theorem dX12_keep_22 : decode cX12_keep 22 = .ok (.aload_n 0, 1) := by decide +kernel
theorem dX12_keep_23 : decode cX12_keep 23 = .ok (.getfield 13, 3) := by decide +kernel
theorem dX12_keep_26 : decode cX12_keep 26 = .ok (.bipush 64, 2) := by decide +kernel
theorem dX12_keep_28 : decode cX12_keep 28 = .ok (.invokevirtual 123, 3) := by decide +kernel
theorem dX12_keep_31 : decode cX12_keep 31 = .ok (.aload_n 0, 1) := by decide +kernel
theorem dX12_keep_32 : decode cX12_keep 32 = .ok (.aload_n 0, 1) := by decide +kernel
theorem dX12_keep_33 : decode cX12_keep 33 = .ok (.getfield 16, 3) := by decide +kernel
theorem dX12_keep_36 : decode cX12_keep 36 = .ok (.sipush 1536, 3) := by decide +kernel
theorem dX12_keep_39 : decode cX12_keep 39 = .ok (.invokevirtual 123, 3) := by decide +kernel
theorem dX12_keep_42 : decode cX12_keep 42 = .ok (.aload_n 0, 1) := by decide +kernel
theorem dX12_keep_43 : decode cX12_keep 43 = .ok (.getfield 37, 3) := by decide +kernel
theorem dX12_keep_46 : decode cX12_keep 46 = .ok (.aload_n 0, 1) := by decide +kernel
theorem dX12_keep_47 : decode cX12_keep 47 = .ok (.getfield 117, 3) := by decide +kernel
theorem dX12_keep_50 : decode cX12_keep 50 = .ok (.aload_n 0, 1) := by decide +kernel
theorem dX12_keep_51 : decode cX12_keep 51 = .ok (.getfield 127, 3) := by decide +kernel
theorem dX12_keep_54 : decode cX12_keep 54 = .ok (.iastore, 1) := by decide +kernel
theorem dX12_keep_55 : decode cX12_keep 55 = .ok (.aload_n 0, 1) := by decide +kernel
theorem dX12_keep_56 : decode cX12_keep 56 = .ok (.dup, 1) := by decide +kernel
theorem dX12_keep_57 : decode cX12_keep 57 = .ok (.getfield 117, 3) := by decide +kernel
theorem dX12_keep_60 : decode cX12_keep 60 = .ok (.iconst 1, 1) := by decide +kernel
theorem dX12_keep_61 : decode cX12_keep 61 = .ok (.iadd, 1) := by decide +kernel
theorem dX12_keep_62 : decode cX12_keep 62 = .ok (.putfield 117, 3) := by decide +kernel
theorem dX12_keep_65 : decode cX12_keep 65 = .ok (.aload_n 0, 1) := by decide +kernel
theorem dX12_keep_66 : decode cX12_keep 66 = .ok (.aload_n 0, 1) := by decide +kernel
theorem dX12_keep_67 : decode cX12_keep 67 = .ok (.getfield 19, 3) := by decide +kernel
theorem dX12_keep_70 : decode cX12_keep 70 = .ok (.bipush 60, 2) := by decide +kernel
theorem dX12_keep_72 : decode cX12_keep 72 = .ok (.invokevirtual 123, 3) := by decide +kernel
theorem dX12_keep_75 : decode cX12_keep 75 = .ok (.aload_n 0, 1) := by decide +kernel
theorem dX12_keep_76 : decode cX12_keep 76 = .ok (.aload_n 0, 1) := by decide +kernel
theorem dX12_keep_77 : decode cX12_keep 77 = .ok (.getfield 22, 3) := by decide +kernel
theorem dX12_keep_80 : decode cX12_keep 80 = .ok (.bipush 60, 2) := by decide +kernel
theorem dX12_keep_82 : decode cX12_keep 82 = .ok (.invokevirtual 123, 3) := by decide +kernel
theorem dX12_keep_85 : decode cX12_keep 85 = .ok (.aload_n 0, 1) := by decide +kernel
theorem dX12_keep_86 : decode cX12_keep 86 = .ok (.aload_n 0, 1) := by decide +kernel
theorem dX12_keep_87 : decode cX12_keep 87 = .ok (.getfield 25, 3) := by decide +kernel
theorem dX12_keep_90 : decode cX12_keep 90 = .ok (.bipush 60, 2) := by decide +kernel
theorem dX12_keep_92 : decode cX12_keep 92 = .ok (.invokevirtual 123, 3) := by decide +kernel
theorem dX12_keep_95 : decode cX12_keep 95 = .ok (.aload_n 0, 1) := by decide +kernel
theorem dX12_keep_96 : decode cX12_keep 96 = .ok (.aload_n 0, 1) := by decide +kernel
theorem dX12_keep_97 : decode cX12_keep 97 = .ok (.getfield 28, 3) := by decide +kernel
theorem dX12_keep_100 : decode cX12_keep 100 = .ok (.bipush 60, 2) := by decide +kernel
theorem dX12_keep_102 : decode cX12_keep 102 = .ok (.invokevirtual 123, 3) := by decide +kernel
theorem dX12_keep_105 : decode cX12_keep 105 = .ok (.aload_n 0, 1) := by decide +kernel
theorem dX12_keep_106 : decode cX12_keep 106 = .ok (.aload_n 0, 1) := by decide +kernel
theorem dX12_keep_107 : decode cX12_keep 107 = .ok (.getfield 120, 3) := by decide +kernel
theorem dX12_keep_110 : decode cX12_keep 110 = .ok (.iconst 1, 1) := by decide +kernel
theorem dX12_keep_111 : decode cX12_keep 111 = .ok (.iadd, 1) := by decide +kernel
theorem dX12_keep_112 : decode cX12_keep 112 = .ok (.bipush 8, 2) := by decide +kernel
theorem dX12_keep_114 : decode cX12_keep 114 = .ok (.irem, 1) := by decide +kernel
theorem dX12_keep_115 : decode cX12_keep 115 = .ok (.putfield 120, 3) := by decide +kernel
theorem dX12_keep_118 : decode cX12_keep 118 = .ok (.aload_n 0, 1) := by decide +kernel
theorem dX12_keep_119 : decode cX12_keep 119 = .ok (.aload_n 0, 1) := by decide +kernel
theorem dX12_keep_120 : decode cX12_keep 120 = .ok (.getfield 130, 3) := by decide +kernel
theorem dX12_keep_123 : decode cX12_keep 123 = .ok (.bipush 8, 2) := by decide +kernel
theorem dX12_keep_125 : decode cX12_keep 125 = .ok (.if_icmp .ge 12, 3) := by decide +kernel
theorem dX12_keep_128 : decode cX12_keep 128 = .ok (.aload_n 0, 1) := by decide +kernel
theorem dX12_keep_129 : decode cX12_keep 129 = .ok (.getfield 130, 3) := by decide +kernel
theorem dX12_keep_132 : decode cX12_keep 132 = .ok (.iconst 1, 1) := by decide +kernel
theorem dX12_keep_133 : decode cX12_keep 133 = .ok (.iadd, 1) := by decide +kernel
theorem dX12_keep_134 : decode cX12_keep 134 = .ok (.goto 5, 3) := by decide +kernel
theorem dX12_keep_137 : decode cX12_keep 137 = .ok (.bipush 8, 2) := by decide +kernel
theorem dX12_keep_139 : decode cX12_keep 139 = .ok (.putfield 130, 3) := by decide +kernel
theorem dX12_keep_142 : decode cX12_keep 142 = .ok (.return_, 1) := by decide +kernel
theorem dX12_undo_0 : decode cX12_undo 0 = .ok (.aload_n 0, 1) := by decide +kernel
theorem dX12_undo_1 : decode cX12_undo 1 = .ok (.iconst 0, 1) := by decide +kernel
theorem dX12_undo_2 : decode cX12_undo 2 = .ok (.putfield 113, 3) := by decide +kernel
theorem dX12_undo_5 : decode cX12_undo 5 = .ok (.aload_n 0, 1) := by decide +kernel
theorem dX12_undo_6 : decode cX12_undo 6 = .ok (.getfield 130, 3) := by decide +kernel
theorem dX12_undo_9 : decode cX12_undo 9 = .ok (.ifCond .ne 6, 3) := by decide +kernel
theorem dX12_undo_12 : decode cX12_undo 12 = .ok (.bipush (-4), 2) := by decide +kernel
theorem dX12_undo_14 : decode cX12_undo 14 = .ok (.ireturn, 1) := by decide +kernel
theorem dX12_undo_15 : decode cX12_undo 15 = .ok (.aload_n 0, 1) := by decide +kernel
theorem dX12_undo_16 : decode cX12_undo 16 = .ok (.aload_n 0, 1) := by decide +kernel
theorem dX12_undo_17 : decode cX12_undo 17 = .ok (.getfield 120, 3) := by decide +kernel
theorem dX12_undo_20 : decode cX12_undo 20 = .ok (.bipush 8, 2) := by decide +kernel
theorem dX12_undo_22 : decode cX12_undo 22 = .ok (.iadd, 1) := by decide +kernel
theorem dX12_undo_23 : decode cX12_undo 23 = .ok (.iconst 1, 1) := by decide +kernel
theorem dX12_undo_24 : decode cX12_undo 24 = .ok (.isub, 1) := by decide +kernel
theorem dX12_undo_25 : decode cX12_undo 25 = .ok (.bipush 8, 2) := by decide +kernel
theorem dX12_undo_27 : decode cX12_undo 27 = .ok (.irem, 1) := by decide +kernel
theorem dX12_undo_28 : decode cX12_undo 28 = .ok (.putfield 120, 3) := by decide +kernel
theorem dX12_undo_31 : decode cX12_undo 31 = .ok (.aload_n 0, 1) := by decide +kernel
theorem dX12_undo_32 : decode cX12_undo 32 = .ok (.dup, 1) := by decide +kernel
theorem dX12_undo_33 : decode cX12_undo 33 = .ok (.getfield 130, 3) := by decide +kernel
theorem dX12_undo_36 : decode cX12_undo 36 = .ok (.iconst 1, 1) := by decide +kernel
theorem dX12_undo_37 : decode cX12_undo 37 = .ok (.isub, 1) := by decide +kernel
theorem dX12_undo_38 : decode cX12_undo 38 = .ok (.putfield 130, 3) := by decide +kernel
theorem dX12_undo_41 : decode cX12_undo 41 = .ok (.aload_n 0, 1) := by decide +kernel
theorem dX12_undo_42 : decode cX12_undo 42 = .ok (.sipush 1860, 3) := by decide +kernel
theorem dX12_undo_45 : decode cX12_undo 45 = .ok (.aload_n 0, 1) := by decide +kernel
theorem dX12_undo_46 : decode cX12_undo 46 = .ok (.getfield 120, 3) := by decide +kernel
theorem dX12_undo_49 : decode cX12_undo 49 = .ok (.imul, 1) := by decide +kernel
theorem dX12_undo_50 : decode cX12_undo 50 = .ok (.putfield 117, 3) := by decide +kernel
theorem dX12_undo_53 : decode cX12_undo 53 = .ok (.aload_n 0, 1) := by decide +kernel
theorem dX12_undo_54 : decode cX12_undo 54 = .ok (.aload_n 0, 1) := by decide +kernel
theorem dX12_undo_55 : decode cX12_undo 55 = .ok (.getfield 7, 3) := by decide +kernel
theorem dX12_undo_58 : decode cX12_undo 58 = .ok (.iconst 4, 1) := by decide +kernel
theorem dX12_undo_59 : decode cX12_undo 59 = .ok (.invokevirtual 133, 3) := by decide +kernel
theorem dX12_undo_62 : decode cX12_undo 62 = .ok (.aload_n 0, 1) := by decide +kernel
theorem dX12_undo_63 : decode cX12_undo 63 = .ok (.aload_n 0, 1) := by decide +kernel
theorem dX12_undo_64 : decode cX12_undo 64 = .ok (.getfield 13, 3) := by decide +kernel
theorem dX12_undo_67 : decode cX12_undo 67 = .ok (.bipush 64, 2) := by decide +kernel
theorem dX12_undo_69 : decode cX12_undo 69 = .ok (.invokevirtual 133, 3) := by decide +kernel
theorem dX12_undo_72 : decode cX12_undo 72 = .ok (.aload_n 0, 1) := by decide +kernel
theorem dX12_undo_73 : decode cX12_undo 73 = .ok (.aload_n 0, 1) := by decide +kernel
theorem dX12_undo_74 : decode cX12_undo 74 = .ok (.getfield 16, 3) := by decide +kernel
theorem dX12_undo_77 : decode cX12_undo 77 = .ok (.sipush 1536, 3) := by decide +kernel
theorem dX12_undo_80 : decode cX12_undo 80 = .ok (.invokevirtual 133, 3) := by decide +kernel
theorem dX12_undo_83 : decode cX12_undo 83 = .ok (.aload_n 0, 1) := by decide +kernel
theorem dX12_undo_84 : decode cX12_undo 84 = .ok (.aload_n 0, 1) := by decide +kernel
theorem dX12_undo_85 : decode cX12_undo 85 = .ok (.getfield 37, 3) := by decide +kernel
theorem dX12_undo_88 : decode cX12_undo 88 = .ok (.aload_n 0, 1) := by decide +kernel
theorem dX12_undo_89 : decode cX12_undo 89 = .ok (.getfield 117, 3) := by decide +kernel
theorem dX12_undo_92 : decode cX12_undo 92 = .ok (.iaload, 1) := by decide +kernel
theorem dX12_undo_93 : decode cX12_undo 93 = .ok (.putfield 127, 3) := by decide +kernel
theorem dX12_undo_96 : decode cX12_undo 96 = .ok (.aload_n 0, 1) := by decide +kernel
theorem dX12_undo_97 : decode cX12_undo 97 = .ok (.dup, 1) := by decide +kernel
theorem dX12_undo_98 : decode cX12_undo 98 = .ok (.getfield 117, 3) := by decide +kernel
theorem dX12_undo_101 : decode cX12_undo 101 = .ok (.iconst 1, 1) := by decide +kernel
theorem dX12_undo_102 : decode cX12_undo 102 = .ok (.iadd, 1) := by decide +kernel
theorem dX12_undo_103 : decode cX12_undo 103 = .ok (.putfield 117, 3) := by decide +kernel
theorem dX12_undo_106 : decode cX12_undo 106 = .ok (.aload_n 0, 1) := by decide +kernel
theorem dX12_undo_107 : decode cX12_undo 107 = .ok (.aload_n 0, 1) := by decide +kernel
theorem dX12_undo_108 : decode cX12_undo 108 = .ok (.getfield 19, 3) := by decide +kernel
theorem dX12_undo_111 : decode cX12_undo 111 = .ok (.bipush 60, 2) := by decide +kernel
theorem dX12_undo_113 : decode cX12_undo 113 = .ok (.invokevirtual 133, 3) := by decide +kernel
theorem dX12_undo_116 : decode cX12_undo 116 = .ok (.aload_n 0, 1) := by decide +kernel
theorem dX12_undo_117 : decode cX12_undo 117 = .ok (.aload_n 0, 1) := by decide +kernel
theorem dX12_undo_118 : decode cX12_undo 118 = .ok (.getfield 22, 3) := by decide +kernel
theorem dX12_undo_121 : decode cX12_undo 121 = .ok (.bipush 60, 2) := by decide +kernel
theorem dX12_undo_123 : decode cX12_undo 123 = .ok (.invokevirtual 133, 3) := by decide +kernel
theorem dX12_undo_126 : decode cX12_undo 126 = .ok (.aload_n 0, 1) := by decide +kernel
theorem dX12_undo_127 : decode cX12_undo 127 = .ok (.aload_n 0, 1) := by decide +kernel
theorem dX12_undo_128 : decode cX12_undo 128 = .ok (.getfield 25, 3) := by decide +kernel
theorem dX12_undo_131 : decode cX12_undo 131 = .ok (.bipush 60, 2) := by decide +kernel
theorem dX12_undo_133 : decode cX12_undo 133 = .ok (.invokevirtual 133, 3) := by decide +kernel
theorem dX12_undo_136 : decode cX12_undo 136 = .ok (.aload_n 0, 1) := by decide +kernel
theorem dX12_undo_137 : decode cX12_undo 137 = .ok (.aload_n 0, 1) := by decide +kernel
theorem dX12_undo_138 : decode cX12_undo 138 = .ok (.getfield 28, 3) := by decide +kernel
theorem dX12_undo_141 : decode cX12_undo 141 = .ok (.bipush 60, 2) := by decide +kernel
theorem dX12_undo_143 : decode cX12_undo 143 = .ok (.invokevirtual 133, 3) := by decide +kernel
theorem dX12_undo_146 : decode cX12_undo 146 = .ok (.aload_n 0, 1) := by decide +kernel
theorem dX12_undo_147 : decode cX12_undo 147 = .ok (.getfield 130, 3) := by decide +kernel
theorem dX12_undo_150 : decode cX12_undo 150 = .ok (.ireturn, 1) := by decide +kernel
theorem dX12_change_0 : decode cX12_change 0 = .ok (.aload_n 0, 1) := by decide +kernel
theorem dX12_change_1 : decode cX12_change 1 = .ok (.invokevirtual 136, 3) := by decide +kernel
theorem dX12_change_4 : decode cX12_change 4 = .ok (.iconst 0, 1) := by decide +kernel
theorem dX12_change_5 : decode cX12_change 5 = .ok (.istore_n 1, 1) := by decide +kernel
theorem dX12_change_6 : decode cX12_change 6 = .ok (.iload_n 1, 1) := by decide +kernel
theorem dX12_change_7 : decode cX12_change 7 = .ok (.sipush 1536, 3) := by decide +kernel
theorem dX12_change_10 : decode cX12_change 10 = .ok (.if_icmp .ge 16, 3) := by decide +kernel
theorem dX12_change_13 : decode cX12_change 13 = .ok (.aload_n 0, 1) := by decide +kernel
theorem dX12_change_14 : decode cX12_change 14 = .ok (.getfield 16, 3) := by decide +kernel
theorem dX12_change_17 : decode cX12_change 17 = .ok (.iload_n 1, 1) := by decide +kernel
theorem dX12_change_18 : decode cX12_change 18 = .ok (.iconst 0, 1) := by decide +kernel
theorem dX12_change_19 : decode cX12_change 19 = .ok (.iastore, 1) := by decide +kernel
theorem dX12_change_20 : decode cX12_change 20 = .ok (.iinc 1 1, 3) := by decide +kernel
theorem dX12_change_23 : decode cX12_change 23 = .ok (.goto (-17), 3) := by decide +kernel
theorem dX12_change_26 : decode cX12_change 26 = .ok (.return_, 1) := by decide +kernel
theorem dX12_cubesIn_0 : decode cX12_cubesIn 0 = .ok (.iconst 0, 1) := by decide +kernel
theorem dX12_cubesIn_1 : decode cX12_cubesIn 1 = .ok (.istore_n 2, 1) := by decide +kernel
theorem dX12_cubesIn_2 : decode cX12_cubesIn 2 = .ok (.iconst 0, 1) := by decide +kernel
theorem dX12_cubesIn_3 : decode cX12_cubesIn 3 = .ok (.istore_n 3, 1) := by decide +kernel
theorem dX12_cubesIn_4 : decode cX12_cubesIn 4 = .ok (.iload_n 3, 1) := by decide +kernel
theorem dX12_cubesIn_5 : decode cX12_cubesIn 5 = .ok (.bipush 16, 2) := by decide +kernel
theorem dX12_cubesIn_7 : decode cX12_cubesIn 7 = .ok (.if_icmp .ge 23, 3) := by decide +kernel
theorem dX12_cubesIn_10 : decode cX12_cubesIn 10 = .ok (.iload_n 2, 1) := by decide +kernel
theorem dX12_cubesIn_11 : decode cX12_cubesIn 11 = .ok (.aload_n 0, 1) := by decide +kernel
theorem dX12_cubesIn_12 : decode cX12_cubesIn 12 = .ok (.getfield 13, 3) := by decide +kernel
theorem dX12_cubesIn_15 : decode cX12_cubesIn 15 = .ok (.bipush 16, 2) := by decide +kernel
theorem dX12_cubesIn_17 : decode cX12_cubesIn 17 = .ok (.iload_n 1, 1) := by decide +kernel
theorem dX12_cubesIn_18 : decode cX12_cubesIn 18 = .ok (.imul, 1) := by decide +kernel
theorem dX12_cubesIn_19 : decode cX12_cubesIn 19 = .ok (.iload_n 3, 1) := by decide +kernel
theorem dX12_cubesIn_20 : decode cX12_cubesIn 20 = .ok (.iadd, 1) := by decide +kernel
theorem dX12_cubesIn_21 : decode cX12_cubesIn 21 = .ok (.iaload, 1) := by decide +kernel
theorem dX12_cubesIn_22 : decode cX12_cubesIn 22 = .ok (.iadd, 1) := by decide +kernel
theorem dX12_cubesIn_23 : decode cX12_cubesIn 23 = .ok (.istore_n 2, 1) := by decide +kernel
theorem dX12_cubesIn_24 : decode cX12_cubesIn 24 = .ok (.iinc 3 1, 3) := by decide +kernel
theorem dX12_cubesIn_27 : decode cX12_cubesIn 27 = .ok (.goto (-23), 3) := by decide +kernel
theorem dX12_cubesIn_30 : decode cX12_cubesIn 30 = .ok (.iload_n 2, 1) := by decide +kernel
theorem dX12_cubesIn_31 : decode cX12_cubesIn 31 = .ok (.ireturn, 1) := by decide +kernel
theorem dX12_layer_0 : decode cX12_layer 0 = .ok (.aload_n 0, 1) := by decide +kernel
theorem dX12_layer_1 : decode cX12_layer 1 = .ok (.iconst 0, 1) := by decide +kernel
theorem dX12_layer_2 : decode cX12_layer 2 = .ok (.putfield 113, 3) := by decide +kernel
theorem dX12_layer_5 : decode cX12_layer 5 = .ok (.iload_n 1, 1) := by decide +kernel
theorem dX12_layer_6 : decode cX12_layer 6 = .ok (.iconst 0, 1) := by decide +kernel
theorem dX12_layer_7 : decode cX12_layer 7 = .ok (.iconst 3, 1) := by decide +kernel
theorem dX12_layer_8 : decode cX12_layer 8 = .ok (.invokestatic 139, 3) := by decide +kernel
theorem dX12_layer_11 : decode cX12_layer 11 = .ok (.ifCond .ne 6, 3) := by decide +kernel
theorem dX12_layer_14 : decode cX12_layer 14 = .ok (.bipush (-3), 2) := by decide +kernel
theorem dX12_layer_16 : decode cX12_layer 16 = .ok (.ireturn, 1) := by decide +kernel
theorem dX12_layer_17 : decode cX12_layer 17 = .ok (.aload_n 0, 1) := by decide +kernel
theorem dX12_layer_18 : decode cX12_layer 18 = .ok (.invokevirtual 143, 3) := by decide +kernel
theorem dX12_layer_21 : decode cX12_layer 21 = .ok (.aload_n 0, 1) := by decide +kernel
theorem dX12_layer_22 : decode cX12_layer 22 = .ok (.getfield 7, 3) := by decide +kernel
theorem dX12_layer_25 : decode cX12_layer 25 = .ok (.iload_n 1, 1) := by decide +kernel
theorem dX12_layer_26 : decode cX12_layer 26 = .ok (.iconst 1, 1) := by decide +kernel
theorem dX12_layer_27 : decode cX12_layer 27 = .ok (.iastore, 1) := by decide +kernel
theorem dX12_layer_28 : decode cX12_layer 28 = .ok (.iconst 0, 1) := by decide +kernel
theorem dX12_layer_29 : decode cX12_layer 29 = .ok (.istore_n 3, 1) := by decide +kernel
theorem dX12_layer_30 : decode cX12_layer 30 = .ok (.iload_n 3, 1) := by decide +kernel
theorem dX12_layer_31 : decode cX12_layer 31 = .ok (.bipush 16, 2) := by decide +kernel
theorem dX12_layer_33 : decode cX12_layer 33 = .ok (.if_icmp .ge 25, 3) := by decide +kernel
theorem dX12_layer_36 : decode cX12_layer 36 = .ok (.aload_n 0, 1) := by decide +kernel
theorem dX12_layer_37 : decode cX12_layer 37 = .ok (.getfield 13, 3) := by decide +kernel
theorem dX12_layer_40 : decode cX12_layer 40 = .ok (.bipush 16, 2) := by decide +kernel
theorem dX12_layer_42 : decode cX12_layer 42 = .ok (.iload_n 1, 1) := by decide +kernel
theorem dX12_layer_43 : decode cX12_layer 43 = .ok (.imul, 1) := by decide +kernel
theorem dX12_layer_44 : decode cX12_layer 44 = .ok (.iload_n 3, 1) := by decide +kernel
theorem dX12_layer_45 : decode cX12_layer 45 = .ok (.iadd, 1) := by decide +kernel
theorem dX12_layer_46 : decode cX12_layer 46 = .ok (.iload_n 2, 1) := by decide +kernel
theorem dX12_layer_47 : decode cX12_layer 47 = .ok (.iload_n 3, 1) := by decide +kernel
theorem dX12_layer_48 : decode cX12_layer 48 = .ok (.ishr, 1) := by decide +kernel
theorem dX12_layer_49 : decode cX12_layer 49 = .ok (.iconst 1, 1) := by decide +kernel
theorem dX12_layer_50 : decode cX12_layer 50 = .ok (.iand, 1) := by decide +kernel
theorem dX12_layer_51 : decode cX12_layer 51 = .ok (.iastore, 1) := by decide +kernel
theorem dX12_layer_52 : decode cX12_layer 52 = .ok (.iinc 3 1, 3) := by decide +kernel
theorem dX12_layer_55 : decode cX12_layer 55 = .ok (.goto (-25), 3) := by decide +kernel
theorem dX12_layer_58 : decode cX12_layer 58 = .ok (.aload_n 0, 1) := by decide +kernel
theorem dX12_layer_59 : decode cX12_layer 59 = .ok (.iload_n 1, 1) := by decide +kernel
theorem dX12_layer_60 : decode cX12_layer 60 = .ok (.invokevirtual 146, 3) := by decide +kernel
theorem dX12_layer_63 : decode cX12_layer 63 = .ok (.ireturn, 1) := by decide +kernel
theorem dX12_lose_0 : decode cX12_lose 0 = .ok (.aload_n 0, 1) := by decide +kernel
theorem dX12_lose_1 : decode cX12_lose 1 = .ok (.iconst 0, 1) := by decide +kernel
theorem dX12_lose_2 : decode cX12_lose 2 = .ok (.putfield 113, 3) := by decide +kernel
theorem dX12_lose_5 : decode cX12_lose 5 = .ok (.iload_n 1, 1) := by decide +kernel
theorem dX12_lose_6 : decode cX12_lose 6 = .ok (.iconst 0, 1) := by decide +kernel
theorem dX12_lose_7 : decode cX12_lose 7 = .ok (.iconst 3, 1) := by decide +kernel
theorem dX12_lose_8 : decode cX12_lose 8 = .ok (.invokestatic 139, 3) := by decide +kernel
theorem dX12_lose_11 : decode cX12_lose 11 = .ok (.ifCond .ne 6, 3) := by decide +kernel
theorem dX12_lose_14 : decode cX12_lose 14 = .ok (.bipush (-3), 2) := by decide +kernel
theorem dX12_lose_16 : decode cX12_lose 16 = .ok (.ireturn, 1) := by decide +kernel
theorem dX12_lose_17 : decode cX12_lose 17 = .ok (.aload_n 0, 1) := by decide +kernel
theorem dX12_lose_18 : decode cX12_lose 18 = .ok (.getfield 7, 3) := by decide +kernel
theorem dX12_lose_21 : decode cX12_lose 21 = .ok (.iload_n 1, 1) := by decide +kernel
theorem dX12_lose_22 : decode cX12_lose 22 = .ok (.iaload, 1) := by decide +kernel
theorem dX12_lose_23 : decode cX12_lose 23 = .ok (.ifCond .ne 6, 3) := by decide +kernel
theorem dX12_lose_26 : decode cX12_lose 26 = .ok (.bipush (-11), 2) := by decide +kernel
theorem dX12_lose_28 : decode cX12_lose 28 = .ok (.ireturn, 1) := by decide +kernel
theorem dX12_lose_29 : decode cX12_lose 29 = .ok (.aload_n 0, 1) := by decide +kernel
theorem dX12_lose_30 : decode cX12_lose 30 = .ok (.invokevirtual 143, 3) := by decide +kernel
theorem dX12_lose_33 : decode cX12_lose 33 = .ok (.aload_n 0, 1) := by decide +kernel
theorem dX12_lose_34 : decode cX12_lose 34 = .ok (.iload_n 1, 1) := by decide +kernel
theorem dX12_lose_35 : decode cX12_lose 35 = .ok (.invokevirtual 146, 3) := by decide +kernel
theorem dX12_lose_38 : decode cX12_lose 38 = .ok (.istore_n 2, 1) := by decide +kernel
theorem dX12_lose_39 : decode cX12_lose 39 = .ok (.aload_n 0, 1) := by decide +kernel
theorem dX12_lose_40 : decode cX12_lose 40 = .ok (.getfield 7, 3) := by decide +kernel
theorem dX12_lose_43 : decode cX12_lose 43 = .ok (.iload_n 1, 1) := by decide +kernel
theorem dX12_lose_44 : decode cX12_lose 44 = .ok (.iconst 0, 1) := by decide +kernel
theorem dX12_lose_45 : decode cX12_lose 45 = .ok (.iastore, 1) := by decide +kernel
theorem dX12_lose_46 : decode cX12_lose 46 = .ok (.iconst 0, 1) := by decide +kernel
theorem dX12_lose_47 : decode cX12_lose 47 = .ok (.istore_n 3, 1) := by decide +kernel
theorem dX12_lose_48 : decode cX12_lose 48 = .ok (.iload_n 3, 1) := by decide +kernel
theorem dX12_lose_49 : decode cX12_lose 49 = .ok (.bipush 16, 2) := by decide +kernel
theorem dX12_lose_51 : decode cX12_lose 51 = .ok (.if_icmp .ge 21, 3) := by decide +kernel
theorem dX12_lose_54 : decode cX12_lose 54 = .ok (.aload_n 0, 1) := by decide +kernel
theorem dX12_lose_55 : decode cX12_lose 55 = .ok (.getfield 13, 3) := by decide +kernel
theorem dX12_lose_58 : decode cX12_lose 58 = .ok (.bipush 16, 2) := by decide +kernel
theorem dX12_lose_60 : decode cX12_lose 60 = .ok (.iload_n 1, 1) := by decide +kernel
theorem dX12_lose_61 : decode cX12_lose 61 = .ok (.imul, 1) := by decide +kernel
theorem dX12_lose_62 : decode cX12_lose 62 = .ok (.iload_n 3, 1) := by decide +kernel
theorem dX12_lose_63 : decode cX12_lose 63 = .ok (.iadd, 1) := by decide +kernel
theorem dX12_lose_64 : decode cX12_lose 64 = .ok (.iconst 0, 1) := by decide +kernel
theorem dX12_lose_65 : decode cX12_lose 65 = .ok (.iastore, 1) := by decide +kernel
theorem dX12_lose_66 : decode cX12_lose 66 = .ok (.iinc 3 1, 3) := by decide +kernel
theorem dX12_lose_69 : decode cX12_lose 69 = .ok (.goto (-21), 3) := by decide +kernel
theorem dX12_lose_72 : decode cX12_lose 72 = .ok (.iload_n 2, 1) := by decide +kernel
theorem dX12_lose_73 : decode cX12_lose 73 = .ok (.ireturn, 1) := by decide +kernel
theorem dX12_cube_0 : decode cX12_cube 0 = .ok (.aload_n 0, 1) := by decide +kernel
theorem dX12_cube_1 : decode cX12_cube 1 = .ok (.iconst 0, 1) := by decide +kernel
theorem dX12_cube_2 : decode cX12_cube 2 = .ok (.putfield 113, 3) := by decide +kernel
theorem dX12_cube_5 : decode cX12_cube 5 = .ok (.iload_n 1, 1) := by decide +kernel
theorem dX12_cube_6 : decode cX12_cube 6 = .ok (.iconst 0, 1) := by decide +kernel
theorem dX12_cube_7 : decode cX12_cube 7 = .ok (.iconst 3, 1) := by decide +kernel
theorem dX12_cube_8 : decode cX12_cube 8 = .ok (.invokestatic 139, 3) := by decide +kernel
theorem dX12_cube_11 : decode cX12_cube 11 = .ok (.ifCond .eq 12, 3) := by decide +kernel
theorem dX12_cube_14 : decode cX12_cube 14 = .ok (.iload_n 3, 1) := by decide +kernel
theorem dX12_cube_15 : decode cX12_cube 15 = .ok (.iconst 0, 1) := by decide +kernel
theorem dX12_cube_16 : decode cX12_cube 16 = .ok (.iconst 1, 1) := by decide +kernel
theorem dX12_cube_17 : decode cX12_cube 17 = .ok (.invokestatic 139, 3) := by decide +kernel
theorem dX12_cube_20 : decode cX12_cube 20 = .ok (.ifCond .ne 6, 3) := by decide +kernel
theorem dX12_cube_23 : decode cX12_cube 23 = .ok (.bipush (-3), 2) := by decide +kernel
theorem dX12_cube_25 : decode cX12_cube 25 = .ok (.ireturn, 1) := by decide +kernel
theorem dX12_cube_26 : decode cX12_cube 26 = .ok (.aload_n 0, 1) := by decide +kernel
theorem dX12_cube_27 : decode cX12_cube 27 = .ok (.getfield 7, 3) := by decide +kernel
theorem dX12_cube_30 : decode cX12_cube 30 = .ok (.iload_n 1, 1) := by decide +kernel
theorem dX12_cube_31 : decode cX12_cube 31 = .ok (.iaload, 1) := by decide +kernel
theorem dX12_cube_32 : decode cX12_cube 32 = .ok (.ifCond .ne 6, 3) := by decide +kernel
theorem dX12_cube_35 : decode cX12_cube 35 = .ok (.bipush (-11), 2) := by decide +kernel
theorem dX12_cube_37 : decode cX12_cube 37 = .ok (.ireturn, 1) := by decide +kernel
theorem dX12_cube_38 : decode cX12_cube 38 = .ok (.iload_n 2, 1) := by decide +kernel
theorem dX12_cube_39 : decode cX12_cube 39 = .ok (.iconst 0, 1) := by decide +kernel
theorem dX12_cube_40 : decode cX12_cube 40 = .ok (.bipush 15, 2) := by decide +kernel
theorem dX12_cube_42 : decode cX12_cube 42 = .ok (.invokestatic 139, 3) := by decide +kernel
theorem dX12_cube_45 : decode cX12_cube 45 = .ok (.ifCond .ne 6, 3) := by decide +kernel
theorem dX12_cube_48 : decode cX12_cube 48 = .ok (.bipush (-13), 2) := by decide +kernel
theorem dX12_cube_50 : decode cX12_cube 50 = .ok (.ireturn, 1) := by decide +kernel
theorem dX12_cube_51 : decode cX12_cube 51 = .ok (.aload_n 0, 1) := by decide +kernel
theorem dX12_cube_52 : decode cX12_cube 52 = .ok (.invokevirtual 143, 3) := by decide +kernel
theorem dX12_cube_55 : decode cX12_cube 55 = .ok (.aload_n 0, 1) := by decide +kernel
theorem dX12_cube_56 : decode cX12_cube 56 = .ok (.getfield 13, 3) := by decide +kernel
theorem dX12_cube_59 : decode cX12_cube 59 = .ok (.bipush 16, 2) := by decide +kernel
theorem dX12_cube_61 : decode cX12_cube 61 = .ok (.iload_n 1, 1) := by decide +kernel
theorem dX12_cube_62 : decode cX12_cube 62 = .ok (.imul, 1) := by decide +kernel
theorem dX12_cube_63 : decode cX12_cube 63 = .ok (.iload_n 2, 1) := by decide +kernel
theorem dX12_cube_64 : decode cX12_cube 64 = .ok (.iadd, 1) := by decide +kernel
theorem dX12_cube_65 : decode cX12_cube 65 = .ok (.iaload, 1) := by decide +kernel
theorem dX12_cube_66 : decode cX12_cube 66 = .ok (.istore 4, 2) := by decide +kernel
theorem dX12_cube_68 : decode cX12_cube 68 = .ok (.aload_n 0, 1) := by decide +kernel
theorem dX12_cube_69 : decode cX12_cube 69 = .ok (.getfield 13, 3) := by decide +kernel
theorem dX12_cube_72 : decode cX12_cube 72 = .ok (.bipush 16, 2) := by decide +kernel
theorem dX12_cube_74 : decode cX12_cube 74 = .ok (.iload_n 1, 1) := by decide +kernel
theorem dX12_cube_75 : decode cX12_cube 75 = .ok (.imul, 1) := by decide +kernel
theorem dX12_cube_76 : decode cX12_cube 76 = .ok (.iload_n 2, 1) := by decide +kernel
theorem dX12_cube_77 : decode cX12_cube 77 = .ok (.iadd, 1) := by decide +kernel
theorem dX12_cube_78 : decode cX12_cube 78 = .ok (.iload_n 3, 1) := by decide +kernel
theorem dX12_cube_79 : decode cX12_cube 79 = .ok (.iastore, 1) := by decide +kernel
theorem dX12_cube_80 : decode cX12_cube 80 = .ok (.iload 4, 2) := by decide +kernel
theorem dX12_cube_82 : decode cX12_cube 82 = .ok (.ireturn, 1) := by decide +kernel
theorem dX12_copy_0 : decode cX12_copy 0 = .ok (.aload_n 0, 1) := by decide +kernel
theorem dX12_copy_1 : decode cX12_copy 1 = .ok (.iconst 0, 1) := by decide +kernel
theorem dX12_copy_2 : decode cX12_copy 2 = .ok (.putfield 113, 3) := by decide +kernel
theorem dX12_copy_5 : decode cX12_copy 5 = .ok (.iload_n 1, 1) := by decide +kernel
theorem dX12_copy_6 : decode cX12_copy 6 = .ok (.iconst 0, 1) := by decide +kernel
theorem dX12_copy_7 : decode cX12_copy 7 = .ok (.iconst 3, 1) := by decide +kernel
theorem dX12_copy_8 : decode cX12_copy 8 = .ok (.invokestatic 139, 3) := by decide +kernel
theorem dX12_copy_11 : decode cX12_copy 11 = .ok (.ifCond .eq 12, 3) := by decide +kernel
theorem dX12_copy_14 : decode cX12_copy 14 = .ok (.iload_n 3, 1) := by decide +kernel
theorem dX12_copy_15 : decode cX12_copy 15 = .ok (.iconst 0, 1) := by decide +kernel
theorem dX12_copy_16 : decode cX12_copy 16 = .ok (.iconst 3, 1) := by decide +kernel
theorem dX12_copy_17 : decode cX12_copy 17 = .ok (.invokestatic 139, 3) := by decide +kernel
theorem dX12_copy_20 : decode cX12_copy 20 = .ok (.ifCond .ne 6, 3) := by decide +kernel
theorem dX12_copy_23 : decode cX12_copy 23 = .ok (.bipush (-3), 2) := by decide +kernel
theorem dX12_copy_25 : decode cX12_copy 25 = .ok (.ireturn, 1) := by decide +kernel
theorem dX12_copy_26 : decode cX12_copy 26 = .ok (.aload_n 0, 1) := by decide +kernel
theorem dX12_copy_27 : decode cX12_copy 27 = .ok (.getfield 7, 3) := by decide +kernel
theorem dX12_copy_30 : decode cX12_copy 30 = .ok (.iload_n 1, 1) := by decide +kernel
theorem dX12_copy_31 : decode cX12_copy 31 = .ok (.iaload, 1) := by decide +kernel
theorem dX12_copy_32 : decode cX12_copy 32 = .ok (.ifCond .eq 12, 3) := by decide +kernel
theorem dX12_copy_35 : decode cX12_copy 35 = .ok (.aload_n 0, 1) := by decide +kernel
theorem dX12_copy_36 : decode cX12_copy 36 = .ok (.getfield 7, 3) := by decide +kernel
theorem dX12_copy_39 : decode cX12_copy 39 = .ok (.iload_n 3, 1) := by decide +kernel
theorem dX12_copy_40 : decode cX12_copy 40 = .ok (.iaload, 1) := by decide +kernel
theorem dX12_copy_41 : decode cX12_copy 41 = .ok (.ifCond .ne 6, 3) := by decide +kernel
theorem dX12_copy_44 : decode cX12_copy 44 = .ok (.bipush (-11), 2) := by decide +kernel
theorem dX12_copy_46 : decode cX12_copy 46 = .ok (.ireturn, 1) := by decide +kernel
theorem dX12_copy_47 : decode cX12_copy 47 = .ok (.iload 5, 2) := by decide +kernel
theorem dX12_copy_49 : decode cX12_copy 49 = .ok (.iconst 0, 1) := by decide +kernel
theorem dX12_copy_50 : decode cX12_copy 50 = .ok (.bipush 16, 2) := by decide +kernel
theorem dX12_copy_52 : decode cX12_copy 52 = .ok (.invokestatic 139, 3) := by decide +kernel
theorem dX12_copy_55 : decode cX12_copy 55 = .ok (.ifCond .eq 30, 3) := by decide +kernel
theorem dX12_copy_58 : decode cX12_copy 58 = .ok (.iload_n 2, 1) := by decide +kernel
theorem dX12_copy_59 : decode cX12_copy 59 = .ok (.iconst 0, 1) := by decide +kernel
theorem dX12_copy_60 : decode cX12_copy 60 = .ok (.bipush 16, 2) := by decide +kernel
theorem dX12_copy_62 : decode cX12_copy 62 = .ok (.iload 5, 2) := by decide +kernel
theorem dX12_copy_64 : decode cX12_copy 64 = .ok (.isub, 1) := by decide +kernel
theorem dX12_copy_65 : decode cX12_copy 65 = .ok (.invokestatic 139, 3) := by decide +kernel
theorem dX12_copy_68 : decode cX12_copy 68 = .ok (.ifCond .eq 17, 3) := by decide +kernel
theorem dX12_copy_71 : decode cX12_copy 71 = .ok (.iload 4, 2) := by decide +kernel
theorem dX12_copy_73 : decode cX12_copy 73 = .ok (.iconst 0, 1) := by decide +kernel
theorem dX12_copy_74 : decode cX12_copy 74 = .ok (.bipush 16, 2) := by decide +kernel
theorem dX12_copy_76 : decode cX12_copy 76 = .ok (.iload 5, 2) := by decide +kernel
theorem dX12_copy_78 : decode cX12_copy 78 = .ok (.isub, 1) := by decide +kernel
theorem dX12_copy_79 : decode cX12_copy 79 = .ok (.invokestatic 139, 3) := by decide +kernel
theorem dX12_copy_82 : decode cX12_copy 82 = .ok (.ifCond .ne 6, 3) := by decide +kernel
theorem dX12_copy_85 : decode cX12_copy 85 = .ok (.bipush (-13), 2) := by decide +kernel
theorem dX12_copy_87 : decode cX12_copy 87 = .ok (.ireturn, 1) := by decide +kernel
theorem dX12_copy_88 : decode cX12_copy 88 = .ok (.aload_n 0, 1) := by decide +kernel
theorem dX12_copy_89 : decode cX12_copy 89 = .ok (.invokevirtual 143, 3) := by decide +kernel
theorem dX12_copy_92 : decode cX12_copy 92 = .ok (.iconst 0, 1) := by decide +kernel
theorem dX12_copy_93 : decode cX12_copy 93 = .ok (.istore 6, 2) := by decide +kernel
theorem dX12_copy_95 : decode cX12_copy 95 = .ok (.iload 6, 2) := by decide +kernel
theorem dX12_copy_97 : decode cX12_copy 97 = .ok (.iload 5, 2) := by decide +kernel
theorem dX12_copy_99 : decode cX12_copy 99 = .ok (.if_icmp .ge 58, 3) := by decide +kernel
theorem dX12_copy_102 : decode cX12_copy 102 = .ok (.iload 4, 2) := by decide +kernel
theorem dX12_copy_104 : decode cX12_copy 104 = .ok (.iload_n 2, 1) := by decide +kernel
theorem dX12_copy_105 : decode cX12_copy 105 = .ok (.if_icmp .le 13, 3) := by decide +kernel
theorem dX12_copy_108 : decode cX12_copy 108 = .ok (.iload 5, 2) := by decide +kernel
theorem dX12_copy_110 : decode cX12_copy 110 = .ok (.iconst 1, 1) := by decide +kernel
theorem dX12_copy_111 : decode cX12_copy 111 = .ok (.isub, 1) := by decide +kernel
theorem dX12_copy_112 : decode cX12_copy 112 = .ok (.iload 6, 2) := by decide +kernel
theorem dX12_copy_114 : decode cX12_copy 114 = .ok (.isub, 1) := by decide +kernel
theorem dX12_copy_115 : decode cX12_copy 115 = .ok (.goto 5, 3) := by decide +kernel
theorem dX12_copy_118 : decode cX12_copy 118 = .ok (.iload 6, 2) := by decide +kernel
theorem dX12_copy_120 : decode cX12_copy 120 = .ok (.istore 7, 2) := by decide +kernel
theorem dX12_copy_122 : decode cX12_copy 122 = .ok (.aload_n 0, 1) := by decide +kernel
theorem dX12_copy_123 : decode cX12_copy 123 = .ok (.getfield 13, 3) := by decide +kernel
theorem dX12_copy_126 : decode cX12_copy 126 = .ok (.bipush 16, 2) := by decide +kernel
theorem dX12_copy_128 : decode cX12_copy 128 = .ok (.iload_n 3, 1) := by decide +kernel
theorem dX12_copy_129 : decode cX12_copy 129 = .ok (.imul, 1) := by decide +kernel
theorem dX12_copy_130 : decode cX12_copy 130 = .ok (.iload 4, 2) := by decide +kernel
theorem dX12_copy_132 : decode cX12_copy 132 = .ok (.iadd, 1) := by decide +kernel
theorem dX12_copy_133 : decode cX12_copy 133 = .ok (.iload 7, 2) := by decide +kernel
theorem dX12_copy_135 : decode cX12_copy 135 = .ok (.iadd, 1) := by decide +kernel
theorem dX12_copy_136 : decode cX12_copy 136 = .ok (.aload_n 0, 1) := by decide +kernel
theorem dX12_copy_137 : decode cX12_copy 137 = .ok (.getfield 13, 3) := by decide +kernel
theorem dX12_copy_140 : decode cX12_copy 140 = .ok (.bipush 16, 2) := by decide +kernel
theorem dX12_copy_142 : decode cX12_copy 142 = .ok (.iload_n 1, 1) := by decide +kernel
theorem dX12_copy_143 : decode cX12_copy 143 = .ok (.imul, 1) := by decide +kernel
theorem dX12_copy_144 : decode cX12_copy 144 = .ok (.iload_n 2, 1) := by decide +kernel
theorem dX12_copy_145 : decode cX12_copy 145 = .ok (.iadd, 1) := by decide +kernel
theorem dX12_copy_146 : decode cX12_copy 146 = .ok (.iload 7, 2) := by decide +kernel
theorem dX12_copy_148 : decode cX12_copy 148 = .ok (.iadd, 1) := by decide +kernel
theorem dX12_copy_149 : decode cX12_copy 149 = .ok (.iaload, 1) := by decide +kernel
theorem dX12_copy_150 : decode cX12_copy 150 = .ok (.iastore, 1) := by decide +kernel
theorem dX12_copy_151 : decode cX12_copy 151 = .ok (.iinc 6 1, 3) := by decide +kernel
theorem dX12_copy_154 : decode cX12_copy 154 = .ok (.goto (-59), 3) := by decide +kernel
theorem dX12_copy_157 : decode cX12_copy 157 = .ok (.iload 5, 2) := by decide +kernel
theorem dX12_copy_159 : decode cX12_copy 159 = .ok (.ireturn, 1) := by decide +kernel
theorem dX12_box_0 : decode cX12_box 0 = .ok (.aload_n 0, 1) := by decide +kernel
theorem dX12_box_1 : decode cX12_box 1 = .ok (.iconst 0, 1) := by decide +kernel
theorem dX12_box_2 : decode cX12_box 2 = .ok (.putfield 113, 3) := by decide +kernel
theorem dX12_box_5 : decode cX12_box 5 = .ok (.iload_n 1, 1) := by decide +kernel
theorem dX12_box_6 : decode cX12_box 6 = .ok (.iconst 1, 1) := by decide +kernel
theorem dX12_box_7 : decode cX12_box 7 = .ok (.iconst 4, 1) := by decide +kernel
theorem dX12_box_8 : decode cX12_box 8 = .ok (.invokestatic 139, 3) := by decide +kernel
theorem dX12_box_11 : decode cX12_box 11 = .ok (.ifCond .eq 21, 3) := by decide +kernel
theorem dX12_box_14 : decode cX12_box 14 = .ok (.iload_n 2, 1) := by decide +kernel
theorem dX12_box_15 : decode cX12_box 15 = .ok (.iconst 1, 1) := by decide +kernel
theorem dX12_box_16 : decode cX12_box 16 = .ok (.iconst 4, 1) := by decide +kernel
theorem dX12_box_17 : decode cX12_box 17 = .ok (.invokestatic 139, 3) := by decide +kernel
theorem dX12_box_20 : decode cX12_box 20 = .ok (.ifCond .eq 12, 3) := by decide +kernel
theorem dX12_box_23 : decode cX12_box 23 = .ok (.iload_n 3, 1) := by decide +kernel
theorem dX12_box_24 : decode cX12_box 24 = .ok (.iconst 1, 1) := by decide +kernel
theorem dX12_box_25 : decode cX12_box 25 = .ok (.iconst 4, 1) := by decide +kernel
theorem dX12_box_26 : decode cX12_box 26 = .ok (.invokestatic 139, 3) := by decide +kernel
theorem dX12_box_29 : decode cX12_box 29 = .ok (.ifCond .ne 6, 3) := by decide +kernel
theorem dX12_box_32 : decode cX12_box 32 = .ok (.bipush (-3), 2) := by decide +kernel
theorem dX12_box_34 : decode cX12_box 34 = .ok (.ireturn, 1) := by decide +kernel
theorem dX12_box_35 : decode cX12_box 35 = .ok (.aload_n 0, 1) := by decide +kernel
theorem dX12_box_36 : decode cX12_box 36 = .ok (.invokevirtual 143, 3) := by decide +kernel
theorem dX12_box_39 : decode cX12_box 39 = .ok (.iconst 0, 1) := by decide +kernel
theorem dX12_box_40 : decode cX12_box 40 = .ok (.istore 4, 2) := by decide +kernel
theorem dX12_box_42 : decode cX12_box 42 = .ok (.iload 4, 2) := by decide +kernel
theorem dX12_box_44 : decode cX12_box 44 = .ok (.bipush 64, 2) := by decide +kernel
theorem dX12_box_46 : decode cX12_box 46 = .ok (.if_icmp .ge 48, 3) := by decide +kernel
theorem dX12_box_49 : decode cX12_box 49 = .ok (.aload_n 0, 1) := by decide +kernel
theorem dX12_box_50 : decode cX12_box 50 = .ok (.getfield 13, 3) := by decide +kernel
theorem dX12_box_53 : decode cX12_box 53 = .ok (.iload 4, 2) := by decide +kernel
theorem dX12_box_55 : decode cX12_box 55 = .ok (.iload 4, 2) := by decide +kernel
theorem dX12_box_57 : decode cX12_box 57 = .ok (.iconst 4, 1) := by decide +kernel
theorem dX12_box_58 : decode cX12_box 58 = .ok (.irem, 1) := by decide +kernel
theorem dX12_box_59 : decode cX12_box 59 = .ok (.iload_n 1, 1) := by decide +kernel
theorem dX12_box_60 : decode cX12_box 60 = .ok (.if_icmp .ge 26, 3) := by decide +kernel
theorem dX12_box_63 : decode cX12_box 63 = .ok (.iload 4, 2) := by decide +kernel
theorem dX12_box_65 : decode cX12_box 65 = .ok (.iconst 4, 1) := by decide +kernel
theorem dX12_box_66 : decode cX12_box 66 = .ok (.idiv, 1) := by decide +kernel
theorem dX12_box_67 : decode cX12_box 67 = .ok (.iconst 4, 1) := by decide +kernel
theorem dX12_box_68 : decode cX12_box 68 = .ok (.irem, 1) := by decide +kernel
theorem dX12_box_69 : decode cX12_box 69 = .ok (.iload_n 2, 1) := by decide +kernel
theorem dX12_box_70 : decode cX12_box 70 = .ok (.if_icmp .ge 16, 3) := by decide +kernel
theorem dX12_box_73 : decode cX12_box 73 = .ok (.iload 4, 2) := by decide +kernel
theorem dX12_box_75 : decode cX12_box 75 = .ok (.bipush 16, 2) := by decide +kernel
theorem dX12_box_77 : decode cX12_box 77 = .ok (.idiv, 1) := by decide +kernel
theorem dX12_box_78 : decode cX12_box 78 = .ok (.iload_n 3, 1) := by decide +kernel
theorem dX12_box_79 : decode cX12_box 79 = .ok (.if_icmp .ge 7, 3) := by decide +kernel
theorem dX12_box_82 : decode cX12_box 82 = .ok (.iconst 1, 1) := by decide +kernel
theorem dX12_box_83 : decode cX12_box 83 = .ok (.goto 4, 3) := by decide +kernel
theorem dX12_box_86 : decode cX12_box 86 = .ok (.iconst 0, 1) := by decide +kernel
theorem dX12_box_87 : decode cX12_box 87 = .ok (.iastore, 1) := by decide +kernel
theorem dX12_box_88 : decode cX12_box 88 = .ok (.iinc 4 1, 3) := by decide +kernel
theorem dX12_box_91 : decode cX12_box 91 = .ok (.goto (-49), 3) := by decide +kernel
theorem dX12_box_94 : decode cX12_box 94 = .ok (.iconst 0, 1) := by decide +kernel
theorem dX12_box_95 : decode cX12_box 95 = .ok (.istore 4, 2) := by decide +kernel
theorem dX12_box_97 : decode cX12_box 97 = .ok (.iload 4, 2) := by decide +kernel
theorem dX12_box_99 : decode cX12_box 99 = .ok (.iconst 4, 1) := by decide +kernel
theorem dX12_box_100 : decode cX12_box 100 = .ok (.if_icmp .ge 27, 3) := by decide +kernel
theorem dX12_box_103 : decode cX12_box 103 = .ok (.aload_n 0, 1) := by decide +kernel
theorem dX12_box_104 : decode cX12_box 104 = .ok (.getfield 7, 3) := by decide +kernel
theorem dX12_box_107 : decode cX12_box 107 = .ok (.iload 4, 2) := by decide +kernel
theorem dX12_box_109 : decode cX12_box 109 = .ok (.iload 4, 2) := by decide +kernel
theorem dX12_box_111 : decode cX12_box 111 = .ok (.iload_n 3, 1) := by decide +kernel
theorem dX12_box_112 : decode cX12_box 112 = .ok (.if_icmp .ge 7, 3) := by decide +kernel
theorem dX12_box_115 : decode cX12_box 115 = .ok (.iconst 1, 1) := by decide +kernel
theorem dX12_box_116 : decode cX12_box 116 = .ok (.goto 4, 3) := by decide +kernel
theorem dX12_box_119 : decode cX12_box 119 = .ok (.iconst 0, 1) := by decide +kernel
theorem dX12_box_120 : decode cX12_box 120 = .ok (.iastore, 1) := by decide +kernel
theorem dX12_box_121 : decode cX12_box 121 = .ok (.iinc 4 1, 3) := by decide +kernel
theorem dX12_box_124 : decode cX12_box 124 = .ok (.goto (-27), 3) := by decide +kernel
theorem dX12_box_127 : decode cX12_box 127 = .ok (.iload_n 1, 1) := by decide +kernel
theorem dX12_box_128 : decode cX12_box 128 = .ok (.iload_n 2, 1) := by decide +kernel
theorem dX12_box_129 : decode cX12_box 129 = .ok (.imul, 1) := by decide +kernel
theorem dX12_box_130 : decode cX12_box 130 = .ok (.iload_n 3, 1) := by decide +kernel
theorem dX12_box_131 : decode cX12_box 131 = .ok (.imul, 1) := by decide +kernel
theorem dX12_box_132 : decode cX12_box 132 = .ok (.ireturn, 1) := by decide +kernel
theorem dX12_cubeAt_0 : decode cX12_cubeAt 0 = .ok (.iload_n 1, 1) := by decide +kernel
theorem dX12_cubeAt_1 : decode cX12_cubeAt 1 = .ok (.iconst 0, 1) := by decide +kernel
theorem dX12_cubeAt_2 : decode cX12_cubeAt 2 = .ok (.iconst 3, 1) := by decide +kernel
theorem dX12_cubeAt_3 : decode cX12_cubeAt 3 = .ok (.invokestatic 139, 3) := by decide +kernel
theorem dX12_cubeAt_6 : decode cX12_cubeAt 6 = .ok (.ifCond .eq 39, 3) := by decide +kernel
theorem dX12_cubeAt_9 : decode cX12_cubeAt 9 = .ok (.iload_n 2, 1) := by decide +kernel
theorem dX12_cubeAt_10 : decode cX12_cubeAt 10 = .ok (.iconst 0, 1) := by decide +kernel
theorem dX12_cubeAt_11 : decode cX12_cubeAt 11 = .ok (.iconst 3, 1) := by decide +kernel
theorem dX12_cubeAt_12 : decode cX12_cubeAt 12 = .ok (.invokestatic 139, 3) := by decide +kernel
theorem dX12_cubeAt_15 : decode cX12_cubeAt 15 = .ok (.ifCond .eq 30, 3) := by decide +kernel
theorem dX12_cubeAt_18 : decode cX12_cubeAt 18 = .ok (.iload_n 3, 1) := by decide +kernel
theorem dX12_cubeAt_19 : decode cX12_cubeAt 19 = .ok (.iconst 0, 1) := by decide +kernel
theorem dX12_cubeAt_20 : decode cX12_cubeAt 20 = .ok (.iconst 3, 1) := by decide +kernel
theorem dX12_cubeAt_21 : decode cX12_cubeAt 21 = .ok (.invokestatic 139, 3) := by decide +kernel
theorem dX12_cubeAt_24 : decode cX12_cubeAt 24 = .ok (.ifCond .eq 21, 3) := by decide +kernel
theorem dX12_cubeAt_27 : decode cX12_cubeAt 27 = .ok (.aload_n 0, 1) := by decide +kernel
theorem dX12_cubeAt_28 : decode cX12_cubeAt 28 = .ok (.getfield 13, 3) := by decide +kernel
theorem dX12_cubeAt_31 : decode cX12_cubeAt 31 = .ok (.bipush 16, 2) := by decide +kernel
theorem dX12_cubeAt_33 : decode cX12_cubeAt 33 = .ok (.iload_n 3, 1) := by decide +kernel
theorem dX12_cubeAt_34 : decode cX12_cubeAt 34 = .ok (.imul, 1) := by decide +kernel
theorem dX12_cubeAt_35 : decode cX12_cubeAt 35 = .ok (.iconst 4, 1) := by decide +kernel
theorem dX12_cubeAt_36 : decode cX12_cubeAt 36 = .ok (.iload_n 2, 1) := by decide +kernel
theorem dX12_cubeAt_37 : decode cX12_cubeAt 37 = .ok (.imul, 1) := by decide +kernel
theorem dX12_cubeAt_38 : decode cX12_cubeAt 38 = .ok (.iadd, 1) := by decide +kernel
theorem dX12_cubeAt_39 : decode cX12_cubeAt 39 = .ok (.iload_n 1, 1) := by decide +kernel
theorem dX12_cubeAt_40 : decode cX12_cubeAt 40 = .ok (.iadd, 1) := by decide +kernel
theorem dX12_cubeAt_41 : decode cX12_cubeAt 41 = .ok (.iaload, 1) := by decide +kernel
theorem dX12_cubeAt_42 : decode cX12_cubeAt 42 = .ok (.goto 4, 3) := by decide +kernel
theorem dX12_cubeAt_45 : decode cX12_cubeAt 45 = .ok (.iconst 0, 1) := by decide +kernel
theorem dX12_cubeAt_46 : decode cX12_cubeAt 46 = .ok (.ireturn, 1) := by decide +kernel
theorem dX12_alongOf_0 : decode cX12_alongOf 0 = .ok (.iload_n 0, 1) := by decide +kernel
theorem dX12_alongOf_1 : decode cX12_alongOf 1 = .ok (.iconst 2, 1) := by decide +kernel
theorem dX12_alongOf_2 : decode cX12_alongOf 2 = .ok (.idiv, 1) := by decide +kernel
theorem dX12_alongOf_3 : decode cX12_alongOf 3 = .ok (.iload_n 1, 1) := by decide +kernel
theorem dX12_alongOf_4 : decode cX12_alongOf 4 = .ok (.if_icmp .eq 7, 3) := by decide +kernel
theorem dX12_alongOf_7 : decode cX12_alongOf 7 = .ok (.iconst 0, 1) := by decide +kernel
theorem dX12_alongOf_8 : decode cX12_alongOf 8 = .ok (.goto 14, 3) := by decide +kernel
theorem dX12_alongOf_11 : decode cX12_alongOf 11 = .ok (.iload_n 0, 1) := by decide +kernel
theorem dX12_alongOf_12 : decode cX12_alongOf 12 = .ok (.iconst 2, 1) := by decide +kernel
theorem dX12_alongOf_13 : decode cX12_alongOf 13 = .ok (.irem, 1) := by decide +kernel
theorem dX12_alongOf_14 : decode cX12_alongOf 14 = .ok (.ifCond .ne 7, 3) := by decide +kernel
theorem dX12_alongOf_17 : decode cX12_alongOf 17 = .ok (.iconst 1, 1) := by decide +kernel
theorem dX12_alongOf_18 : decode cX12_alongOf 18 = .ok (.goto 4, 3) := by decide +kernel
theorem dX12_alongOf_21 : decode cX12_alongOf 21 = .ok (.iconst (-1), 1) := by decide +kernel
theorem dX12_alongOf_22 : decode cX12_alongOf 22 = .ok (.ireturn, 1) := by decide +kernel
theorem dX12_padded_0 : decode cX12_padded 0 = .ok (.aload_n 0, 1) := by decide +kernel
theorem dX12_padded_1 : decode cX12_padded 1 = .ok (.iload_n 1, 1) := by decide +kernel
theorem dX12_padded_2 : decode cX12_padded 2 = .ok (.bipush 6, 2) := by decide +kernel
theorem dX12_padded_4 : decode cX12_padded 4 = .ok (.irem, 1) := by decide +kernel
theorem dX12_padded_5 : decode cX12_padded 5 = .ok (.iconst 1, 1) := by decide +kernel
theorem dX12_padded_6 : decode cX12_padded 6 = .ok (.isub, 1) := by decide +kernel
theorem dX12_padded_7 : decode cX12_padded 7 = .ok (.iload_n 1, 1) := by decide +kernel
theorem dX12_padded_8 : decode cX12_padded 8 = .ok (.bipush 6, 2) := by decide +kernel
theorem dX12_padded_10 : decode cX12_padded 10 = .ok (.idiv, 1) := by decide +kernel
theorem dX12_padded_11 : decode cX12_padded 11 = .ok (.bipush 6, 2) := by decide +kernel
theorem dX12_padded_13 : decode cX12_padded 13 = .ok (.irem, 1) := by decide +kernel
theorem dX12_padded_14 : decode cX12_padded 14 = .ok (.iconst 1, 1) := by decide +kernel
theorem dX12_padded_15 : decode cX12_padded 15 = .ok (.isub, 1) := by decide +kernel
theorem dX12_padded_16 : decode cX12_padded 16 = .ok (.iload_n 1, 1) := by decide +kernel
theorem dX12_padded_17 : decode cX12_padded 17 = .ok (.bipush 36, 2) := by decide +kernel
theorem dX12_padded_19 : decode cX12_padded 19 = .ok (.idiv, 1) := by decide +kernel
theorem dX12_padded_20 : decode cX12_padded 20 = .ok (.iconst 1, 1) := by decide +kernel
theorem dX12_padded_21 : decode cX12_padded 21 = .ok (.isub, 1) := by decide +kernel
theorem dX12_padded_22 : decode cX12_padded 22 = .ok (.invokevirtual 150, 3) := by decide +kernel
theorem dX12_padded_25 : decode cX12_padded 25 = .ok (.ireturn, 1) := by decide +kernel
theorem dX12_step_0 : decode cX12_step 0 = .ok (.iload_n 0, 1) := by decide +kernel
theorem dX12_step_1 : decode cX12_step 1 = .ok (.bipush 6, 2) := by decide +kernel
theorem dX12_step_3 : decode cX12_step 3 = .ok (.irem, 1) := by decide +kernel
theorem dX12_step_4 : decode cX12_step 4 = .ok (.iload_n 1, 1) := by decide +kernel
theorem dX12_step_5 : decode cX12_step 5 = .ok (.iconst 0, 1) := by decide +kernel
theorem dX12_step_6 : decode cX12_step 6 = .ok (.invokestatic 154, 3) := by decide +kernel
theorem dX12_step_9 : decode cX12_step 9 = .ok (.iadd, 1) := by decide +kernel
theorem dX12_step_10 : decode cX12_step 10 = .ok (.istore_n 2, 1) := by decide +kernel
theorem dX12_step_11 : decode cX12_step 11 = .ok (.iload_n 0, 1) := by decide +kernel
theorem dX12_step_12 : decode cX12_step 12 = .ok (.bipush 6, 2) := by decide +kernel
theorem dX12_step_14 : decode cX12_step 14 = .ok (.idiv, 1) := by decide +kernel
theorem dX12_step_15 : decode cX12_step 15 = .ok (.bipush 6, 2) := by decide +kernel
theorem dX12_step_17 : decode cX12_step 17 = .ok (.irem, 1) := by decide +kernel
theorem dX12_step_18 : decode cX12_step 18 = .ok (.iload_n 1, 1) := by decide +kernel
theorem dX12_step_19 : decode cX12_step 19 = .ok (.iconst 1, 1) := by decide +kernel
theorem dX12_step_20 : decode cX12_step 20 = .ok (.invokestatic 154, 3) := by decide +kernel
theorem dX12_step_23 : decode cX12_step 23 = .ok (.iadd, 1) := by decide +kernel
theorem dX12_step_24 : decode cX12_step 24 = .ok (.istore_n 3, 1) := by decide +kernel
theorem dX12_step_25 : decode cX12_step 25 = .ok (.iload_n 0, 1) := by decide +kernel
theorem dX12_step_26 : decode cX12_step 26 = .ok (.bipush 36, 2) := by decide +kernel
theorem dX12_step_28 : decode cX12_step 28 = .ok (.idiv, 1) := by decide +kernel
theorem dX12_step_29 : decode cX12_step 29 = .ok (.iload_n 1, 1) := by decide +kernel
theorem dX12_step_30 : decode cX12_step 30 = .ok (.iconst 2, 1) := by decide +kernel
theorem dX12_step_31 : decode cX12_step 31 = .ok (.invokestatic 154, 3) := by decide +kernel
theorem dX12_step_34 : decode cX12_step 34 = .ok (.iadd, 1) := by decide +kernel
theorem dX12_step_35 : decode cX12_step 35 = .ok (.istore 4, 2) := by decide +kernel
theorem dX12_step_37 : decode cX12_step 37 = .ok (.iload_n 2, 1) := by decide +kernel
theorem dX12_step_38 : decode cX12_step 38 = .ok (.iconst 0, 1) := by decide +kernel
theorem dX12_step_39 : decode cX12_step 39 = .ok (.iconst 5, 1) := by decide +kernel
theorem dX12_step_40 : decode cX12_step 40 = .ok (.invokestatic 139, 3) := by decide +kernel
theorem dX12_step_43 : decode cX12_step 43 = .ok (.ifCond .eq 37, 3) := by decide +kernel
theorem dX12_step_46 : decode cX12_step 46 = .ok (.iload_n 3, 1) := by decide +kernel
theorem dX12_step_47 : decode cX12_step 47 = .ok (.iconst 0, 1) := by decide +kernel
theorem dX12_step_48 : decode cX12_step 48 = .ok (.iconst 5, 1) := by decide +kernel
theorem dX12_step_49 : decode cX12_step 49 = .ok (.invokestatic 139, 3) := by decide +kernel
theorem dX12_step_52 : decode cX12_step 52 = .ok (.ifCond .eq 28, 3) := by decide +kernel
theorem dX12_step_55 : decode cX12_step 55 = .ok (.iload 4, 2) := by decide +kernel
theorem dX12_step_57 : decode cX12_step 57 = .ok (.iconst 0, 1) := by decide +kernel
theorem dX12_step_58 : decode cX12_step 58 = .ok (.iconst 5, 1) := by decide +kernel
theorem dX12_step_59 : decode cX12_step 59 = .ok (.invokestatic 139, 3) := by decide +kernel
theorem dX12_step_62 : decode cX12_step 62 = .ok (.ifCond .eq 18, 3) := by decide +kernel
theorem dX12_step_65 : decode cX12_step 65 = .ok (.bipush 36, 2) := by decide +kernel
theorem dX12_step_67 : decode cX12_step 67 = .ok (.iload 4, 2) := by decide +kernel
theorem dX12_step_69 : decode cX12_step 69 = .ok (.imul, 1) := by decide +kernel
theorem dX12_step_70 : decode cX12_step 70 = .ok (.bipush 6, 2) := by decide +kernel
theorem dX12_step_72 : decode cX12_step 72 = .ok (.iload_n 3, 1) := by decide +kernel
theorem dX12_step_73 : decode cX12_step 73 = .ok (.imul, 1) := by decide +kernel
theorem dX12_step_74 : decode cX12_step 74 = .ok (.iadd, 1) := by decide +kernel
theorem dX12_step_75 : decode cX12_step 75 = .ok (.iload_n 2, 1) := by decide +kernel
theorem dX12_step_76 : decode cX12_step 76 = .ok (.iadd, 1) := by decide +kernel
theorem dX12_step_77 : decode cX12_step 77 = .ok (.goto 4, 3) := by decide +kernel
theorem dX12_step_80 : decode cX12_step 80 = .ok (.iconst (-1), 1) := by decide +kernel
theorem dX12_step_81 : decode cX12_step 81 = .ok (.ireturn, 1) := by decide +kernel
theorem dX12_hang_0 : decode cX12_hang 0 = .ok (.iconst 0, 1) := by decide +kernel
theorem dX12_hang_1 : decode cX12_hang 1 = .ok (.istore_n 2, 1) := by decide +kernel
theorem dX12_hang_2 : decode cX12_hang 2 = .ok (.iconst (-1), 1) := by decide +kernel
theorem dX12_hang_3 : decode cX12_hang 3 = .ok (.istore_n 3, 1) := by decide +kernel
theorem dX12_hang_4 : decode cX12_hang 4 = .ok (.iconst 0, 1) := by decide +kernel
theorem dX12_hang_5 : decode cX12_hang 5 = .ok (.istore 4, 2) := by decide +kernel
theorem dX12_hang_7 : decode cX12_hang 7 = .ok (.iload 4, 2) := by decide +kernel
theorem dX12_hang_9 : decode cX12_hang 9 = .ok (.sipush 216, 3) := by decide +kernel
theorem dX12_hang_12 : decode cX12_hang 12 = .ok (.if_icmp .ge 42, 3) := by decide +kernel
theorem dX12_hang_15 : decode cX12_hang 15 = .ok (.aload_n 0, 1) := by decide +kernel
theorem dX12_hang_16 : decode cX12_hang 16 = .ok (.getfield 40, 3) := by decide +kernel
theorem dX12_hang_19 : decode cX12_hang 19 = .ok (.iload 4, 2) := by decide +kernel
theorem dX12_hang_21 : decode cX12_hang 21 = .ok (.iconst 0, 1) := by decide +kernel
theorem dX12_hang_22 : decode cX12_hang 22 = .ok (.iastore, 1) := by decide +kernel
theorem dX12_hang_23 : decode cX12_hang 23 = .ok (.aload_n 0, 1) := by decide +kernel
theorem dX12_hang_24 : decode cX12_hang 24 = .ok (.iload 4, 2) := by decide +kernel
theorem dX12_hang_26 : decode cX12_hang 26 = .ok (.invokevirtual 158, 3) := by decide +kernel
theorem dX12_hang_29 : decode cX12_hang 29 = .ok (.iload_n 1, 1) := by decide +kernel
theorem dX12_hang_30 : decode cX12_hang 30 = .ok (.if_icmp .ne 18, 3) := by decide +kernel
theorem dX12_hang_33 : decode cX12_hang 33 = .ok (.iload_n 3, 1) := by decide +kernel
theorem dX12_hang_34 : decode cX12_hang 34 = .ok (.iconst (-1), 1) := by decide +kernel
theorem dX12_hang_35 : decode cX12_hang 35 = .ok (.if_icmp .ne 8, 3) := by decide +kernel
theorem dX12_hang_38 : decode cX12_hang 38 = .ok (.iload 4, 2) := by decide +kernel
theorem dX12_hang_40 : decode cX12_hang 40 = .ok (.goto 4, 3) := by decide +kernel
theorem dX12_hang_43 : decode cX12_hang 43 = .ok (.iload_n 3, 1) := by decide +kernel
theorem dX12_hang_44 : decode cX12_hang 44 = .ok (.istore_n 3, 1) := by decide +kernel
theorem dX12_hang_45 : decode cX12_hang 45 = .ok (.iinc 2 1, 3) := by decide +kernel
theorem dX12_hang_48 : decode cX12_hang 48 = .ok (.iinc 4 1, 3) := by decide +kernel
theorem dX12_hang_51 : decode cX12_hang 51 = .ok (.goto (-44), 3) := by decide +kernel
theorem dX12_hang_54 : decode cX12_hang 54 = .ok (.aload_n 0, 1) := by decide +kernel
theorem dX12_hang_55 : decode cX12_hang 55 = .ok (.getfield 40, 3) := by decide +kernel
theorem dX12_hang_58 : decode cX12_hang 58 = .ok (.iload_n 3, 1) := by decide +kernel
theorem dX12_hang_59 : decode cX12_hang 59 = .ok (.iconst 1, 1) := by decide +kernel
theorem dX12_hang_60 : decode cX12_hang 60 = .ok (.iastore, 1) := by decide +kernel
theorem dX12_hang_61 : decode cX12_hang 61 = .ok (.iconst 1, 1) := by decide +kernel
theorem dX12_hang_62 : decode cX12_hang 62 = .ok (.istore 4, 2) := by decide +kernel
theorem dX12_hang_64 : decode cX12_hang 64 = .ok (.iconst 1, 1) := by decide +kernel
theorem dX12_hang_65 : decode cX12_hang 65 = .ok (.istore 5, 2) := by decide +kernel
theorem dX12_hang_67 : decode cX12_hang 67 = .ok (.iload 5, 2) := by decide +kernel
theorem dX12_hang_69 : decode cX12_hang 69 = .ok (.ifCond .eq 102, 3) := by decide +kernel
theorem dX12_hang_72 : decode cX12_hang 72 = .ok (.iconst 0, 1) := by decide +kernel
theorem dX12_hang_73 : decode cX12_hang 73 = .ok (.istore 5, 2) := by decide +kernel
theorem dX12_hang_75 : decode cX12_hang 75 = .ok (.iconst 0, 1) := by decide +kernel
theorem dX12_hang_76 : decode cX12_hang 76 = .ok (.istore 6, 2) := by decide +kernel
theorem dX12_hang_78 : decode cX12_hang 78 = .ok (.iload 6, 2) := by decide +kernel
theorem dX12_hang_80 : decode cX12_hang 80 = .ok (.sipush 216, 3) := by decide +kernel
theorem dX12_hang_83 : decode cX12_hang 83 = .ok (.if_icmp .ge 85, 3) := by decide +kernel
theorem dX12_hang_86 : decode cX12_hang 86 = .ok (.iconst 0, 1) := by decide +kernel
theorem dX12_hang_87 : decode cX12_hang 87 = .ok (.istore 7, 2) := by decide +kernel
theorem dX12_hang_89 : decode cX12_hang 89 = .ok (.iload 7, 2) := by decide +kernel
theorem dX12_hang_91 : decode cX12_hang 91 = .ok (.bipush 6, 2) := by decide +kernel
theorem dX12_hang_93 : decode cX12_hang 93 = .ok (.if_icmp .ge 69, 3) := by decide +kernel
theorem dX12_hang_96 : decode cX12_hang 96 = .ok (.aload_n 0, 1) := by decide +kernel
theorem dX12_hang_97 : decode cX12_hang 97 = .ok (.getfield 40, 3) := by decide +kernel
theorem dX12_hang_100 : decode cX12_hang 100 = .ok (.iload 6, 2) := by decide +kernel
theorem dX12_hang_102 : decode cX12_hang 102 = .ok (.iaload, 1) := by decide +kernel
theorem dX12_hang_103 : decode cX12_hang 103 = .ok (.iconst 1, 1) := by decide +kernel
theorem dX12_hang_104 : decode cX12_hang 104 = .ok (.if_icmp .ne 58, 3) := by decide +kernel
theorem dX12_hang_107 : decode cX12_hang 107 = .ok (.iload 6, 2) := by decide +kernel
theorem dX12_hang_109 : decode cX12_hang 109 = .ok (.iload 7, 2) := by decide +kernel
theorem dX12_hang_111 : decode cX12_hang 111 = .ok (.invokestatic 161, 3) := by decide +kernel
theorem dX12_hang_114 : decode cX12_hang 114 = .ok (.istore 8, 2) := by decide +kernel
theorem dX12_hang_116 : decode cX12_hang 116 = .ok (.iload 8, 2) := by decide +kernel
theorem dX12_hang_118 : decode cX12_hang 118 = .ok (.iconst (-1), 1) := by decide +kernel
theorem dX12_hang_119 : decode cX12_hang 119 = .ok (.if_icmp .eq 37, 3) := by decide +kernel
theorem dX12_hang_122 : decode cX12_hang 122 = .ok (.aload_n 0, 1) := by decide +kernel
theorem dX12_hang_123 : decode cX12_hang 123 = .ok (.getfield 40, 3) := by decide +kernel
theorem dX12_hang_126 : decode cX12_hang 126 = .ok (.iload 8, 2) := by decide +kernel
theorem dX12_hang_128 : decode cX12_hang 128 = .ok (.iaload, 1) := by decide +kernel
theorem dX12_hang_129 : decode cX12_hang 129 = .ok (.ifCond .ne 27, 3) := by decide +kernel
theorem dX12_hang_132 : decode cX12_hang 132 = .ok (.aload_n 0, 1) := by decide +kernel
theorem dX12_hang_133 : decode cX12_hang 133 = .ok (.iload 8, 2) := by decide +kernel
theorem dX12_hang_135 : decode cX12_hang 135 = .ok (.invokevirtual 158, 3) := by decide +kernel
theorem dX12_hang_138 : decode cX12_hang 138 = .ok (.iload_n 1, 1) := by decide +kernel
theorem dX12_hang_139 : decode cX12_hang 139 = .ok (.if_icmp .ne 17, 3) := by decide +kernel
theorem dX12_hang_142 : decode cX12_hang 142 = .ok (.aload_n 0, 1) := by decide +kernel
theorem dX12_hang_143 : decode cX12_hang 143 = .ok (.getfield 40, 3) := by decide +kernel
theorem dX12_hang_146 : decode cX12_hang 146 = .ok (.iload 8, 2) := by decide +kernel
theorem dX12_hang_148 : decode cX12_hang 148 = .ok (.iconst 1, 1) := by decide +kernel
theorem dX12_hang_149 : decode cX12_hang 149 = .ok (.iastore, 1) := by decide +kernel
theorem dX12_hang_150 : decode cX12_hang 150 = .ok (.iinc 4 1, 3) := by decide +kernel
theorem dX12_hang_153 : decode cX12_hang 153 = .ok (.iconst 1, 1) := by decide +kernel
theorem dX12_hang_154 : decode cX12_hang 154 = .ok (.istore 5, 2) := by decide +kernel
theorem dX12_hang_156 : decode cX12_hang 156 = .ok (.iinc 7 1, 3) := by decide +kernel
theorem dX12_hang_159 : decode cX12_hang 159 = .ok (.goto (-70), 3) := by decide +kernel
theorem dX12_hang_162 : decode cX12_hang 162 = .ok (.iinc 6 1, 3) := by decide +kernel
theorem dX12_hang_165 : decode cX12_hang 165 = .ok (.goto (-87), 3) := by decide +kernel
theorem dX12_hang_168 : decode cX12_hang 168 = .ok (.goto (-101), 3) := by decide +kernel
theorem dX12_hang_171 : decode cX12_hang 171 = .ok (.iload 4, 2) := by decide +kernel
theorem dX12_hang_173 : decode cX12_hang 173 = .ok (.iload_n 2, 1) := by decide +kernel
theorem dX12_hang_174 : decode cX12_hang 174 = .ok (.if_icmp .ne 7, 3) := by decide +kernel
theorem dX12_hang_177 : decode cX12_hang 177 = .ok (.iconst 1, 1) := by decide +kernel
theorem dX12_hang_178 : decode cX12_hang 178 = .ok (.goto 4, 3) := by decide +kernel
theorem dX12_hang_181 : decode cX12_hang 181 = .ok (.iconst 0, 1) := by decide +kernel
theorem dX12_hang_182 : decode cX12_hang 182 = .ok (.ireturn, 1) := by decide +kernel
theorem dX12_areJoined_0 : decode cX12_areJoined 0 = .ok (.iconst 0, 1) := by decide +kernel
theorem dX12_areJoined_1 : decode cX12_areJoined 1 = .ok (.istore_n 2, 1) := by decide +kernel
theorem dX12_areJoined_2 : decode cX12_areJoined 2 = .ok (.iconst 0, 1) := by decide +kernel
theorem dX12_areJoined_3 : decode cX12_areJoined 3 = .ok (.istore_n 3, 1) := by decide +kernel
theorem dX12_areJoined_4 : decode cX12_areJoined 4 = .ok (.iconst 0, 1) := by decide +kernel
theorem dX12_areJoined_5 : decode cX12_areJoined 5 = .ok (.istore 4, 2) := by decide +kernel
theorem dX12_areJoined_7 : decode cX12_areJoined 7 = .ok (.iload 4, 2) := by decide +kernel
theorem dX12_areJoined_9 : decode cX12_areJoined 9 = .ok (.iload_n 1, 1) := by decide +kernel
theorem dX12_areJoined_10 : decode cX12_areJoined 10 = .ok (.if_icmp .ge 22, 3) := by decide +kernel
theorem dX12_areJoined_13 : decode cX12_areJoined 13 = .ok (.iload_n 3, 1) := by decide +kernel
theorem dX12_areJoined_14 : decode cX12_areJoined 14 = .ok (.aload_n 0, 1) := by decide +kernel
theorem dX12_areJoined_15 : decode cX12_areJoined 15 = .ok (.getfield 43, 3) := by decide +kernel
theorem dX12_areJoined_18 : decode cX12_areJoined 18 = .ok (.iload 4, 2) := by decide +kernel
theorem dX12_areJoined_20 : decode cX12_areJoined 20 = .ok (.iaload, 1) := by decide +kernel
theorem dX12_areJoined_21 : decode cX12_areJoined 21 = .ok (.iload 4, 2) := by decide +kernel
theorem dX12_areJoined_23 : decode cX12_areJoined 23 = .ok (.ishl, 1) := by decide +kernel
theorem dX12_areJoined_24 : decode cX12_areJoined 24 = .ok (.ior, 1) := by decide +kernel
theorem dX12_areJoined_25 : decode cX12_areJoined 25 = .ok (.istore_n 3, 1) := by decide +kernel
theorem dX12_areJoined_26 : decode cX12_areJoined 26 = .ok (.iinc 4 1, 3) := by decide +kernel
theorem dX12_areJoined_29 : decode cX12_areJoined 29 = .ok (.goto (-22), 3) := by decide +kernel
theorem dX12_areJoined_32 : decode cX12_areJoined 32 = .ok (.iload_n 3, 1) := by decide +kernel
theorem dX12_areJoined_33 : decode cX12_areJoined 33 = .ok (.iload_n 3, 1) := by decide +kernel
theorem dX12_areJoined_34 : decode cX12_areJoined 34 = .ok (.ineg, 1) := by decide +kernel
theorem dX12_areJoined_35 : decode cX12_areJoined 35 = .ok (.iand, 1) := by decide +kernel
theorem dX12_areJoined_36 : decode cX12_areJoined 36 = .ok (.istore_n 2, 1) := by decide +kernel
theorem dX12_areJoined_37 : decode cX12_areJoined 37 = .ok (.iconst 0, 1) := by decide +kernel
theorem dX12_areJoined_38 : decode cX12_areJoined 38 = .ok (.istore 4, 2) := by decide +kernel
theorem dX12_areJoined_40 : decode cX12_areJoined 40 = .ok (.iload 4, 2) := by decide +kernel
theorem dX12_areJoined_42 : decode cX12_areJoined 42 = .ok (.bipush 8, 2) := by decide +kernel
theorem dX12_areJoined_44 : decode cX12_areJoined 44 = .ok (.if_icmp .ge 64, 3) := by decide +kernel
theorem dX12_areJoined_47 : decode cX12_areJoined 47 = .ok (.iconst 0, 1) := by decide +kernel
theorem dX12_areJoined_48 : decode cX12_areJoined 48 = .ok (.istore 5, 2) := by decide +kernel
theorem dX12_areJoined_50 : decode cX12_areJoined 50 = .ok (.iload 5, 2) := by decide +kernel
theorem dX12_areJoined_52 : decode cX12_areJoined 52 = .ok (.iload_n 1, 1) := by decide +kernel
theorem dX12_areJoined_53 : decode cX12_areJoined 53 = .ok (.if_icmp .ge 49, 3) := by decide +kernel
theorem dX12_areJoined_56 : decode cX12_areJoined 56 = .ok (.iconst 1, 1) := by decide +kernel
theorem dX12_areJoined_57 : decode cX12_areJoined 57 = .ok (.istore 6, 2) := by decide +kernel
theorem dX12_areJoined_59 : decode cX12_areJoined 59 = .ok (.iload 6, 2) := by decide +kernel
theorem dX12_areJoined_61 : decode cX12_areJoined 61 = .ok (.iload_n 1, 1) := by decide +kernel
theorem dX12_areJoined_62 : decode cX12_areJoined 62 = .ok (.if_icmp .ge 34, 3) := by decide +kernel
theorem dX12_areJoined_65 : decode cX12_areJoined 65 = .ok (.iload_n 2, 1) := by decide +kernel
theorem dX12_areJoined_66 : decode cX12_areJoined 66 = .ok (.iload 5, 2) := by decide +kernel
theorem dX12_areJoined_68 : decode cX12_areJoined 68 = .ok (.ishr, 1) := by decide +kernel
theorem dX12_areJoined_69 : decode cX12_areJoined 69 = .ok (.iconst 1, 1) := by decide +kernel
theorem dX12_areJoined_70 : decode cX12_areJoined 70 = .ok (.iand, 1) := by decide +kernel
theorem dX12_areJoined_71 : decode cX12_areJoined 71 = .ok (.iconst 1, 1) := by decide +kernel
theorem dX12_areJoined_72 : decode cX12_areJoined 72 = .ok (.if_icmp .ne 24, 3) := by decide +kernel
theorem dX12_areJoined_75 : decode cX12_areJoined 75 = .ok (.iload_n 2, 1) := by decide +kernel
theorem dX12_areJoined_76 : decode cX12_areJoined 76 = .ok (.iload_n 3, 1) := by decide +kernel
theorem dX12_areJoined_77 : decode cX12_areJoined 77 = .ok (.iconst 1, 1) := by decide +kernel
theorem dX12_areJoined_78 : decode cX12_areJoined 78 = .ok (.iload 5, 2) := by decide +kernel
theorem dX12_areJoined_80 : decode cX12_areJoined 80 = .ok (.iload 6, 2) := by decide +kernel
theorem dX12_areJoined_82 : decode cX12_areJoined 82 = .ok (.ixor, 1) := by decide +kernel
theorem dX12_areJoined_83 : decode cX12_areJoined 83 = .ok (.ishl, 1) := by decide +kernel
theorem dX12_areJoined_84 : decode cX12_areJoined 84 = .ok (.iand, 1) := by decide +kernel
theorem dX12_areJoined_85 : decode cX12_areJoined 85 = .ok (.ior, 1) := by decide +kernel
theorem dX12_areJoined_86 : decode cX12_areJoined 86 = .ok (.istore_n 2, 1) := by decide +kernel
theorem dX12_areJoined_87 : decode cX12_areJoined 87 = .ok (.iload 6, 2) := by decide +kernel
theorem dX12_areJoined_89 : decode cX12_areJoined 89 = .ok (.iconst 2, 1) := by decide +kernel
theorem dX12_areJoined_90 : decode cX12_areJoined 90 = .ok (.imul, 1) := by decide +kernel
theorem dX12_areJoined_91 : decode cX12_areJoined 91 = .ok (.istore 6, 2) := by decide +kernel
theorem dX12_areJoined_93 : decode cX12_areJoined 93 = .ok (.goto (-34), 3) := by decide +kernel
theorem dX12_areJoined_96 : decode cX12_areJoined 96 = .ok (.iinc 5 1, 3) := by decide +kernel
theorem dX12_areJoined_99 : decode cX12_areJoined 99 = .ok (.goto (-49), 3) := by decide +kernel
theorem dX12_areJoined_102 : decode cX12_areJoined 102 = .ok (.iinc 4 1, 3) := by decide +kernel
theorem dX12_areJoined_105 : decode cX12_areJoined 105 = .ok (.goto (-65), 3) := by decide +kernel
theorem dX12_areJoined_108 : decode cX12_areJoined 108 = .ok (.iload_n 2, 1) := by decide +kernel
theorem dX12_areJoined_109 : decode cX12_areJoined 109 = .ok (.iload_n 3, 1) := by decide +kernel
theorem dX12_areJoined_110 : decode cX12_areJoined 110 = .ok (.if_icmp .ne 7, 3) := by decide +kernel
theorem dX12_areJoined_113 : decode cX12_areJoined 113 = .ok (.iconst 1, 1) := by decide +kernel
theorem dX12_areJoined_114 : decode cX12_areJoined 114 = .ok (.goto 4, 3) := by decide +kernel
theorem dX12_areJoined_117 : decode cX12_areJoined 117 = .ok (.iconst 0, 1) := by decide +kernel
theorem dX12_areJoined_118 : decode cX12_areJoined 118 = .ok (.ireturn, 1) := by decide +kernel
theorem dX12_isCornerWell_0 : decode cX12_isCornerWell 0 = .ok (.iconst 0, 1) := by decide +kernel
theorem dX12_isCornerWell_1 : decode cX12_isCornerWell 1 = .ok (.istore 4, 2) := by decide +kernel
theorem dX12_isCornerWell_3 : decode cX12_isCornerWell 3 = .ok (.iload 4, 2) := by decide +kernel
theorem dX12_isCornerWell_5 : decode cX12_isCornerWell 5 = .ok (.bipush 8, 2) := by decide +kernel
theorem dX12_isCornerWell_7 : decode cX12_isCornerWell 7 = .ok (.if_icmp .ge 40, 3) := by decide +kernel
theorem dX12_isCornerWell_10 : decode cX12_isCornerWell 10 = .ok (.aload_n 0, 1) := by decide +kernel
theorem dX12_isCornerWell_11 : decode cX12_isCornerWell 11 = .ok (.getfield 43, 3) := by decide +kernel
theorem dX12_isCornerWell_14 : decode cX12_isCornerWell 14 = .ok (.iload 4, 2) := by decide +kernel
theorem dX12_isCornerWell_16 : decode cX12_isCornerWell 16 = .ok (.aload_n 0, 1) := by decide +kernel
theorem dX12_isCornerWell_17 : decode cX12_isCornerWell 17 = .ok (.iload_n 1, 1) := by decide +kernel
theorem dX12_isCornerWell_18 : decode cX12_isCornerWell 18 = .ok (.iload 4, 2) := by decide +kernel
theorem dX12_isCornerWell_20 : decode cX12_isCornerWell 20 = .ok (.iconst 1, 1) := by decide +kernel
theorem dX12_isCornerWell_21 : decode cX12_isCornerWell 21 = .ok (.iand, 1) := by decide +kernel
theorem dX12_isCornerWell_22 : decode cX12_isCornerWell 22 = .ok (.iadd, 1) := by decide +kernel
theorem dX12_isCornerWell_23 : decode cX12_isCornerWell 23 = .ok (.iload_n 2, 1) := by decide +kernel
theorem dX12_isCornerWell_24 : decode cX12_isCornerWell 24 = .ok (.iload 4, 2) := by decide +kernel
theorem dX12_isCornerWell_26 : decode cX12_isCornerWell 26 = .ok (.iconst 1, 1) := by decide +kernel
theorem dX12_isCornerWell_27 : decode cX12_isCornerWell 27 = .ok (.ishr, 1) := by decide +kernel
theorem dX12_isCornerWell_28 : decode cX12_isCornerWell 28 = .ok (.iconst 1, 1) := by decide +kernel
theorem dX12_isCornerWell_29 : decode cX12_isCornerWell 29 = .ok (.iand, 1) := by decide +kernel
theorem dX12_isCornerWell_30 : decode cX12_isCornerWell 30 = .ok (.iadd, 1) := by decide +kernel
theorem dX12_isCornerWell_31 : decode cX12_isCornerWell 31 = .ok (.iload_n 3, 1) := by decide +kernel
theorem dX12_isCornerWell_32 : decode cX12_isCornerWell 32 = .ok (.iload 4, 2) := by decide +kernel
theorem dX12_isCornerWell_34 : decode cX12_isCornerWell 34 = .ok (.iconst 2, 1) := by decide +kernel
theorem dX12_isCornerWell_35 : decode cX12_isCornerWell 35 = .ok (.ishr, 1) := by decide +kernel
theorem dX12_isCornerWell_36 : decode cX12_isCornerWell 36 = .ok (.iadd, 1) := by decide +kernel
theorem dX12_isCornerWell_37 : decode cX12_isCornerWell 37 = .ok (.invokevirtual 150, 3) := by decide +kernel
theorem dX12_isCornerWell_40 : decode cX12_isCornerWell 40 = .ok (.iastore, 1) := by decide +kernel
theorem dX12_isCornerWell_41 : decode cX12_isCornerWell 41 = .ok (.iinc 4 1, 3) := by decide +kernel
theorem dX12_isCornerWell_44 : decode cX12_isCornerWell 44 = .ok (.goto (-41), 3) := by decide +kernel
theorem dX12_isCornerWell_47 : decode cX12_isCornerWell 47 = .ok (.aload_n 0, 1) := by decide +kernel
theorem dX12_isCornerWell_48 : decode cX12_isCornerWell 48 = .ok (.bipush 8, 2) := by decide +kernel
theorem dX12_isCornerWell_50 : decode cX12_isCornerWell 50 = .ok (.invokevirtual 164, 3) := by decide +kernel
theorem dX12_isCornerWell_53 : decode cX12_isCornerWell 53 = .ok (.ireturn, 1) := by decide +kernel
theorem dX12_isEdgeWell_0 : decode cX12_isEdgeWell 0 = .ok (.iconst 0, 1) := by decide +kernel
theorem dX12_isEdgeWell_1 : decode cX12_isEdgeWell 1 = .ok (.istore 5, 2) := by decide +kernel
theorem dX12_isEdgeWell_3 : decode cX12_isEdgeWell 3 = .ok (.iload 5, 2) := by decide +kernel
theorem dX12_isEdgeWell_5 : decode cX12_isEdgeWell 5 = .ok (.iconst 4, 1) := by decide +kernel
theorem dX12_isEdgeWell_6 : decode cX12_isEdgeWell 6 = .ok (.if_icmp .ge 84, 3) := by decide +kernel
theorem dX12_isEdgeWell_9 : decode cX12_isEdgeWell 9 = .ok (.iload 5, 2) := by decide +kernel
theorem dX12_isEdgeWell_11 : decode cX12_isEdgeWell 11 = .ok (.iconst 1, 1) := by decide +kernel
theorem dX12_isEdgeWell_12 : decode cX12_isEdgeWell 12 = .ok (.iand, 1) := by decide +kernel
theorem dX12_isEdgeWell_13 : decode cX12_isEdgeWell 13 = .ok (.istore 6, 2) := by decide +kernel
theorem dX12_isEdgeWell_15 : decode cX12_isEdgeWell 15 = .ok (.iload 5, 2) := by decide +kernel
theorem dX12_isEdgeWell_17 : decode cX12_isEdgeWell 17 = .ok (.iconst 1, 1) := by decide +kernel
theorem dX12_isEdgeWell_18 : decode cX12_isEdgeWell 18 = .ok (.ishr, 1) := by decide +kernel
theorem dX12_isEdgeWell_19 : decode cX12_isEdgeWell 19 = .ok (.istore 7, 2) := by decide +kernel
theorem dX12_isEdgeWell_21 : decode cX12_isEdgeWell 21 = .ok (.aload_n 0, 1) := by decide +kernel
theorem dX12_isEdgeWell_22 : decode cX12_isEdgeWell 22 = .ok (.getfield 43, 3) := by decide +kernel
theorem dX12_isEdgeWell_25 : decode cX12_isEdgeWell 25 = .ok (.iload 5, 2) := by decide +kernel
theorem dX12_isEdgeWell_27 : decode cX12_isEdgeWell 27 = .ok (.iload 4, 2) := by decide +kernel
theorem dX12_isEdgeWell_29 : decode cX12_isEdgeWell 29 = .ok (.ifCond .ne 19, 3) := by decide +kernel
theorem dX12_isEdgeWell_32 : decode cX12_isEdgeWell 32 = .ok (.aload_n 0, 1) := by decide +kernel
theorem dX12_isEdgeWell_33 : decode cX12_isEdgeWell 33 = .ok (.iload_n 1, 1) := by decide +kernel
theorem dX12_isEdgeWell_34 : decode cX12_isEdgeWell 34 = .ok (.iload_n 2, 1) := by decide +kernel
theorem dX12_isEdgeWell_35 : decode cX12_isEdgeWell 35 = .ok (.iload 6, 2) := by decide +kernel
theorem dX12_isEdgeWell_37 : decode cX12_isEdgeWell 37 = .ok (.iadd, 1) := by decide +kernel
theorem dX12_isEdgeWell_38 : decode cX12_isEdgeWell 38 = .ok (.iload_n 3, 1) := by decide +kernel
theorem dX12_isEdgeWell_39 : decode cX12_isEdgeWell 39 = .ok (.iload 7, 2) := by decide +kernel
theorem dX12_isEdgeWell_41 : decode cX12_isEdgeWell 41 = .ok (.iadd, 1) := by decide +kernel
theorem dX12_isEdgeWell_42 : decode cX12_isEdgeWell 42 = .ok (.invokevirtual 150, 3) := by decide +kernel
theorem dX12_isEdgeWell_45 : decode cX12_isEdgeWell 45 = .ok (.goto 38, 3) := by decide +kernel
theorem dX12_isEdgeWell_48 : decode cX12_isEdgeWell 48 = .ok (.iload 4, 2) := by decide +kernel
theorem dX12_isEdgeWell_50 : decode cX12_isEdgeWell 50 = .ok (.iconst 1, 1) := by decide +kernel
theorem dX12_isEdgeWell_51 : decode cX12_isEdgeWell 51 = .ok (.if_icmp .ne 19, 3) := by decide +kernel
theorem dX12_isEdgeWell_54 : decode cX12_isEdgeWell 54 = .ok (.aload_n 0, 1) := by decide +kernel
theorem dX12_isEdgeWell_55 : decode cX12_isEdgeWell 55 = .ok (.iload_n 1, 1) := by decide +kernel
theorem dX12_isEdgeWell_56 : decode cX12_isEdgeWell 56 = .ok (.iload 6, 2) := by decide +kernel
theorem dX12_isEdgeWell_58 : decode cX12_isEdgeWell 58 = .ok (.iadd, 1) := by decide +kernel
theorem dX12_isEdgeWell_59 : decode cX12_isEdgeWell 59 = .ok (.iload_n 2, 1) := by decide +kernel
theorem dX12_isEdgeWell_60 : decode cX12_isEdgeWell 60 = .ok (.iload_n 3, 1) := by decide +kernel
theorem dX12_isEdgeWell_61 : decode cX12_isEdgeWell 61 = .ok (.iload 7, 2) := by decide +kernel
theorem dX12_isEdgeWell_63 : decode cX12_isEdgeWell 63 = .ok (.iadd, 1) := by decide +kernel
theorem dX12_isEdgeWell_64 : decode cX12_isEdgeWell 64 = .ok (.invokevirtual 150, 3) := by decide +kernel
theorem dX12_isEdgeWell_67 : decode cX12_isEdgeWell 67 = .ok (.goto 16, 3) := by decide +kernel
theorem dX12_isEdgeWell_70 : decode cX12_isEdgeWell 70 = .ok (.aload_n 0, 1) := by decide +kernel
theorem dX12_isEdgeWell_71 : decode cX12_isEdgeWell 71 = .ok (.iload_n 1, 1) := by decide +kernel
theorem dX12_isEdgeWell_72 : decode cX12_isEdgeWell 72 = .ok (.iload 6, 2) := by decide +kernel
theorem dX12_isEdgeWell_74 : decode cX12_isEdgeWell 74 = .ok (.iadd, 1) := by decide +kernel
theorem dX12_isEdgeWell_75 : decode cX12_isEdgeWell 75 = .ok (.iload_n 2, 1) := by decide +kernel
theorem dX12_isEdgeWell_76 : decode cX12_isEdgeWell 76 = .ok (.iload 7, 2) := by decide +kernel
theorem dX12_isEdgeWell_78 : decode cX12_isEdgeWell 78 = .ok (.iadd, 1) := by decide +kernel
theorem dX12_isEdgeWell_79 : decode cX12_isEdgeWell 79 = .ok (.iload_n 3, 1) := by decide +kernel
theorem dX12_isEdgeWell_80 : decode cX12_isEdgeWell 80 = .ok (.invokevirtual 150, 3) := by decide +kernel
theorem dX12_isEdgeWell_83 : decode cX12_isEdgeWell 83 = .ok (.iastore, 1) := by decide +kernel
theorem dX12_isEdgeWell_84 : decode cX12_isEdgeWell 84 = .ok (.iinc 5 1, 3) := by decide +kernel
theorem dX12_isEdgeWell_87 : decode cX12_isEdgeWell 87 = .ok (.goto (-84), 3) := by decide +kernel
theorem dX12_isEdgeWell_90 : decode cX12_isEdgeWell 90 = .ok (.aload_n 0, 1) := by decide +kernel
theorem dX12_isEdgeWell_91 : decode cX12_isEdgeWell 91 = .ok (.iconst 4, 1) := by decide +kernel
theorem dX12_isEdgeWell_92 : decode cX12_isEdgeWell 92 = .ok (.invokevirtual 164, 3) := by decide +kernel
theorem dX12_isEdgeWell_95 : decode cX12_isEdgeWell 95 = .ok (.ireturn, 1) := by decide +kernel
theorem dX12_isJoinedWell_0 : decode cX12_isJoinedWell 0 = .ok (.iconst 1, 1) := by decide +kernel
theorem dX12_isJoinedWell_1 : decode cX12_isJoinedWell 1 = .ok (.istore_n 1, 1) := by decide +kernel
theorem dX12_isJoinedWell_2 : decode cX12_isJoinedWell 2 = .ok (.iconst (-1), 1) := by decide +kernel
theorem dX12_isJoinedWell_3 : decode cX12_isJoinedWell 3 = .ok (.istore_n 2, 1) := by decide +kernel
theorem dX12_isJoinedWell_4 : decode cX12_isJoinedWell 4 = .ok (.iload_n 2, 1) := by decide +kernel
theorem dX12_isJoinedWell_5 : decode cX12_isJoinedWell 5 = .ok (.iconst 4, 1) := by decide +kernel
theorem dX12_isJoinedWell_6 : decode cX12_isJoinedWell 6 = .ok (.if_icmp .ge 94, 3) := by decide +kernel
theorem dX12_isJoinedWell_9 : decode cX12_isJoinedWell 9 = .ok (.iconst (-1), 1) := by decide +kernel
theorem dX12_isJoinedWell_10 : decode cX12_isJoinedWell 10 = .ok (.istore_n 3, 1) := by decide +kernel
theorem dX12_isJoinedWell_11 : decode cX12_isJoinedWell 11 = .ok (.iload_n 3, 1) := by decide +kernel
theorem dX12_isJoinedWell_12 : decode cX12_isJoinedWell 12 = .ok (.iconst 4, 1) := by decide +kernel
theorem dX12_isJoinedWell_13 : decode cX12_isJoinedWell 13 = .ok (.if_icmp .ge 81, 3) := by decide +kernel
theorem dX12_isJoinedWell_16 : decode cX12_isJoinedWell 16 = .ok (.iconst (-1), 1) := by decide +kernel
theorem dX12_isJoinedWell_17 : decode cX12_isJoinedWell 17 = .ok (.istore 4, 2) := by decide +kernel
theorem dX12_isJoinedWell_19 : decode cX12_isJoinedWell 19 = .ok (.iload 4, 2) := by decide +kernel
theorem dX12_isJoinedWell_21 : decode cX12_isJoinedWell 21 = .ok (.iconst 4, 1) := by decide +kernel
theorem dX12_isJoinedWell_22 : decode cX12_isJoinedWell 22 = .ok (.if_icmp .ge 66, 3) := by decide +kernel
theorem dX12_isJoinedWell_25 : decode cX12_isJoinedWell 25 = .ok (.iload_n 1, 1) := by decide +kernel
theorem dX12_isJoinedWell_26 : decode cX12_isJoinedWell 26 = .ok (.ifCond .eq 54, 3) := by decide +kernel
theorem dX12_isJoinedWell_29 : decode cX12_isJoinedWell 29 = .ok (.aload_n 0, 1) := by decide +kernel
theorem dX12_isJoinedWell_30 : decode cX12_isJoinedWell 30 = .ok (.iload_n 2, 1) := by decide +kernel
theorem dX12_isJoinedWell_31 : decode cX12_isJoinedWell 31 = .ok (.iload_n 3, 1) := by decide +kernel
theorem dX12_isJoinedWell_32 : decode cX12_isJoinedWell 32 = .ok (.iload 4, 2) := by decide +kernel
theorem dX12_isJoinedWell_34 : decode cX12_isJoinedWell 34 = .ok (.invokevirtual 168, 3) := by decide +kernel
theorem dX12_isJoinedWell_37 : decode cX12_isJoinedWell 37 = .ok (.ifCond .eq 43, 3) := by decide +kernel
theorem dX12_isJoinedWell_40 : decode cX12_isJoinedWell 40 = .ok (.aload_n 0, 1) := by decide +kernel
theorem dX12_isJoinedWell_41 : decode cX12_isJoinedWell 41 = .ok (.iload_n 2, 1) := by decide +kernel
theorem dX12_isJoinedWell_42 : decode cX12_isJoinedWell 42 = .ok (.iload_n 3, 1) := by decide +kernel
theorem dX12_isJoinedWell_43 : decode cX12_isJoinedWell 43 = .ok (.iload 4, 2) := by decide +kernel
theorem dX12_isJoinedWell_45 : decode cX12_isJoinedWell 45 = .ok (.iconst 0, 1) := by decide +kernel
theorem dX12_isJoinedWell_46 : decode cX12_isJoinedWell 46 = .ok (.invokevirtual 171, 3) := by decide +kernel
theorem dX12_isJoinedWell_49 : decode cX12_isJoinedWell 49 = .ok (.ifCond .eq 31, 3) := by decide +kernel
theorem dX12_isJoinedWell_52 : decode cX12_isJoinedWell 52 = .ok (.aload_n 0, 1) := by decide +kernel
theorem dX12_isJoinedWell_53 : decode cX12_isJoinedWell 53 = .ok (.iload_n 2, 1) := by decide +kernel
theorem dX12_isJoinedWell_54 : decode cX12_isJoinedWell 54 = .ok (.iload_n 3, 1) := by decide +kernel
theorem dX12_isJoinedWell_55 : decode cX12_isJoinedWell 55 = .ok (.iload 4, 2) := by decide +kernel
theorem dX12_isJoinedWell_57 : decode cX12_isJoinedWell 57 = .ok (.iconst 1, 1) := by decide +kernel
theorem dX12_isJoinedWell_58 : decode cX12_isJoinedWell 58 = .ok (.invokevirtual 171, 3) := by decide +kernel
theorem dX12_isJoinedWell_61 : decode cX12_isJoinedWell 61 = .ok (.ifCond .eq 19, 3) := by decide +kernel
theorem dX12_isJoinedWell_64 : decode cX12_isJoinedWell 64 = .ok (.aload_n 0, 1) := by decide +kernel
theorem dX12_isJoinedWell_65 : decode cX12_isJoinedWell 65 = .ok (.iload_n 2, 1) := by decide +kernel
theorem dX12_isJoinedWell_66 : decode cX12_isJoinedWell 66 = .ok (.iload_n 3, 1) := by decide +kernel
theorem dX12_isJoinedWell_67 : decode cX12_isJoinedWell 67 = .ok (.iload 4, 2) := by decide +kernel
theorem dX12_isJoinedWell_69 : decode cX12_isJoinedWell 69 = .ok (.iconst 2, 1) := by decide +kernel
theorem dX12_isJoinedWell_70 : decode cX12_isJoinedWell 70 = .ok (.invokevirtual 171, 3) := by decide +kernel
theorem dX12_isJoinedWell_73 : decode cX12_isJoinedWell 73 = .ok (.ifCond .eq 7, 3) := by decide +kernel
theorem dX12_isJoinedWell_76 : decode cX12_isJoinedWell 76 = .ok (.iconst 1, 1) := by decide +kernel
theorem dX12_isJoinedWell_77 : decode cX12_isJoinedWell 77 = .ok (.goto 4, 3) := by decide +kernel
theorem dX12_isJoinedWell_80 : decode cX12_isJoinedWell 80 = .ok (.iconst 0, 1) := by decide +kernel
theorem dX12_isJoinedWell_81 : decode cX12_isJoinedWell 81 = .ok (.istore_n 1, 1) := by decide +kernel
theorem dX12_isJoinedWell_82 : decode cX12_isJoinedWell 82 = .ok (.iinc 4 1, 3) := by decide +kernel
theorem dX12_isJoinedWell_85 : decode cX12_isJoinedWell 85 = .ok (.goto (-66), 3) := by decide +kernel
theorem dX12_isJoinedWell_88 : decode cX12_isJoinedWell 88 = .ok (.iinc 3 1, 3) := by decide +kernel
theorem dX12_isJoinedWell_91 : decode cX12_isJoinedWell 91 = .ok (.goto (-80), 3) := by decide +kernel
theorem dX12_isJoinedWell_94 : decode cX12_isJoinedWell 94 = .ok (.iinc 2 1, 3) := by decide +kernel
theorem dX12_isJoinedWell_97 : decode cX12_isJoinedWell 97 = .ok (.goto (-93), 3) := by decide +kernel
theorem dX12_isJoinedWell_100 : decode cX12_isJoinedWell 100 = .ok (.iload_n 1, 1) := by decide +kernel
theorem dX12_isJoinedWell_101 : decode cX12_isJoinedWell 101 = .ok (.ireturn, 1) := by decide +kernel
theorem dX12_wellOf_0 : decode cX12_wellOf 0 = .ok (.iconst 0, 1) := by decide +kernel
theorem dX12_wellOf_1 : decode cX12_wellOf 1 = .ok (.istore_n 1, 1) := by decide +kernel
theorem dX12_wellOf_2 : decode cX12_wellOf 2 = .ok (.iconst 0, 1) := by decide +kernel
theorem dX12_wellOf_3 : decode cX12_wellOf 3 = .ok (.istore_n 2, 1) := by decide +kernel
theorem dX12_wellOf_4 : decode cX12_wellOf 4 = .ok (.iload_n 2, 1) := by decide +kernel
theorem dX12_wellOf_5 : decode cX12_wellOf 5 = .ok (.bipush 64, 2) := by decide +kernel
theorem dX12_wellOf_7 : decode cX12_wellOf 7 = .ok (.if_icmp .ge 18, 3) := by decide +kernel
theorem dX12_wellOf_10 : decode cX12_wellOf 10 = .ok (.iload_n 1, 1) := by decide +kernel
theorem dX12_wellOf_11 : decode cX12_wellOf 11 = .ok (.aload_n 0, 1) := by decide +kernel
theorem dX12_wellOf_12 : decode cX12_wellOf 12 = .ok (.getfield 13, 3) := by decide +kernel
theorem dX12_wellOf_15 : decode cX12_wellOf 15 = .ok (.iload_n 2, 1) := by decide +kernel
theorem dX12_wellOf_16 : decode cX12_wellOf 16 = .ok (.iaload, 1) := by decide +kernel
theorem dX12_wellOf_17 : decode cX12_wellOf 17 = .ok (.iadd, 1) := by decide +kernel
theorem dX12_wellOf_18 : decode cX12_wellOf 18 = .ok (.istore_n 1, 1) := by decide +kernel
theorem dX12_wellOf_19 : decode cX12_wellOf 19 = .ok (.iinc 2 1, 3) := by decide +kernel
theorem dX12_wellOf_22 : decode cX12_wellOf 22 = .ok (.goto (-18), 3) := by decide +kernel
theorem dX12_wellOf_25 : decode cX12_wellOf 25 = .ok (.iload_n 1, 1) := by decide +kernel
theorem dX12_wellOf_26 : decode cX12_wellOf 26 = .ok (.ifCond .ne 7, 3) := by decide +kernel
theorem dX12_wellOf_29 : decode cX12_wellOf 29 = .ok (.iconst 1, 1) := by decide +kernel
theorem dX12_wellOf_30 : decode cX12_wellOf 30 = .ok (.goto 39, 3) := by decide +kernel
theorem dX12_wellOf_33 : decode cX12_wellOf 33 = .ok (.aload_n 0, 1) := by decide +kernel
theorem dX12_wellOf_34 : decode cX12_wellOf 34 = .ok (.iconst 1, 1) := by decide +kernel
theorem dX12_wellOf_35 : decode cX12_wellOf 35 = .ok (.invokevirtual 175, 3) := by decide +kernel
theorem dX12_wellOf_38 : decode cX12_wellOf 38 = .ok (.ifCond .ne 7, 3) := by decide +kernel
theorem dX12_wellOf_41 : decode cX12_wellOf 41 = .ok (.iconst 2, 1) := by decide +kernel
theorem dX12_wellOf_42 : decode cX12_wellOf 42 = .ok (.goto 27, 3) := by decide +kernel
theorem dX12_wellOf_45 : decode cX12_wellOf 45 = .ok (.aload_n 0, 1) := by decide +kernel
theorem dX12_wellOf_46 : decode cX12_wellOf 46 = .ok (.invokevirtual 178, 3) := by decide +kernel
theorem dX12_wellOf_49 : decode cX12_wellOf 49 = .ok (.ifCond .ne 7, 3) := by decide +kernel
theorem dX12_wellOf_52 : decode cX12_wellOf 52 = .ok (.iconst 3, 1) := by decide +kernel
theorem dX12_wellOf_53 : decode cX12_wellOf 53 = .ok (.goto 16, 3) := by decide +kernel
theorem dX12_wellOf_56 : decode cX12_wellOf 56 = .ok (.aload_n 0, 1) := by decide +kernel
theorem dX12_wellOf_57 : decode cX12_wellOf 57 = .ok (.iconst 0, 1) := by decide +kernel
theorem dX12_wellOf_58 : decode cX12_wellOf 58 = .ok (.invokevirtual 175, 3) := by decide +kernel
theorem dX12_wellOf_61 : decode cX12_wellOf 61 = .ok (.ifCond .ne 7, 3) := by decide +kernel
theorem dX12_wellOf_64 : decode cX12_wellOf 64 = .ok (.iconst 4, 1) := by decide +kernel
theorem dX12_wellOf_65 : decode cX12_wellOf 65 = .ok (.goto 4, 3) := by decide +kernel
theorem dX12_wellOf_68 : decode cX12_wellOf 68 = .ok (.iconst 0, 1) := by decide +kernel
theorem dX12_wellOf_69 : decode cX12_wellOf 69 = .ok (.ireturn, 1) := by decide +kernel
theorem dX12_well_0 : decode cX12_well 0 = .ok (.aload_n 0, 1) := by decide +kernel
theorem dX12_well_1 : decode cX12_well 1 = .ok (.iconst 0, 1) := by decide +kernel
theorem dX12_well_2 : decode cX12_well 2 = .ok (.putfield 113, 3) := by decide +kernel
theorem dX12_well_5 : decode cX12_well 5 = .ok (.aload_n 0, 1) := by decide +kernel
theorem dX12_well_6 : decode cX12_well 6 = .ok (.invokevirtual 182, 3) := by decide +kernel
theorem dX12_well_9 : decode cX12_well 9 = .ok (.ireturn, 1) := by decide +kernel
theorem dX12_xOf_0 : decode cX12_xOf 0 = .ok (.iload_n 0, 1) := by decide +kernel
theorem dX12_xOf_1 : decode cX12_xOf 1 = .ok (.iconst 4, 1) := by decide +kernel
theorem dX12_xOf_2 : decode cX12_xOf 2 = .ok (.irem, 1) := by decide +kernel
theorem dX12_xOf_3 : decode cX12_xOf 3 = .ok (.ireturn, 1) := by decide +kernel
theorem dX12_yOf_0 : decode cX12_yOf 0 = .ok (.iload_n 0, 1) := by decide +kernel
theorem dX12_yOf_1 : decode cX12_yOf 1 = .ok (.iconst 4, 1) := by decide +kernel
theorem dX12_yOf_2 : decode cX12_yOf 2 = .ok (.idiv, 1) := by decide +kernel
theorem dX12_yOf_3 : decode cX12_yOf 3 = .ok (.iconst 4, 1) := by decide +kernel
theorem dX12_yOf_4 : decode cX12_yOf 4 = .ok (.irem, 1) := by decide +kernel
theorem dX12_yOf_5 : decode cX12_yOf 5 = .ok (.ireturn, 1) := by decide +kernel
theorem dX12_zOf_0 : decode cX12_zOf 0 = .ok (.iload_n 0, 1) := by decide +kernel
theorem dX12_zOf_1 : decode cX12_zOf 1 = .ok (.bipush 16, 2) := by decide +kernel
theorem dX12_zOf_3 : decode cX12_zOf 3 = .ok (.idiv, 1) := by decide +kernel
theorem dX12_zOf_4 : decode cX12_zOf 4 = .ok (.ireturn, 1) := by decide +kernel
theorem dX12_isCube_0 : decode cX12_isCube 0 = .ok (.iload_n 1, 1) := by decide +kernel
theorem dX12_isCube_1 : decode cX12_isCube 1 = .ok (.invokestatic 186, 3) := by decide +kernel
theorem dX12_isCube_4 : decode cX12_isCube 4 = .ok (.iload_n 2, 1) := by decide +kernel
theorem dX12_isCube_5 : decode cX12_isCube 5 = .ok (.iconst 0, 1) := by decide +kernel
theorem dX12_isCube_6 : decode cX12_isCube 6 = .ok (.invokestatic 154, 3) := by decide +kernel
theorem dX12_isCube_9 : decode cX12_isCube 9 = .ok (.iadd, 1) := by decide +kernel
theorem dX12_isCube_10 : decode cX12_isCube 10 = .ok (.iload_n 3, 1) := by decide +kernel
theorem dX12_isCube_11 : decode cX12_isCube 11 = .ok (.iconst (-1), 1) := by decide +kernel
theorem dX12_isCube_12 : decode cX12_isCube 12 = .ok (.if_icmp .ne 7, 3) := by decide +kernel
theorem dX12_isCube_15 : decode cX12_isCube 15 = .ok (.iconst 0, 1) := by decide +kernel
theorem dX12_isCube_16 : decode cX12_isCube 16 = .ok (.goto 8, 3) := by decide +kernel
theorem dX12_isCube_19 : decode cX12_isCube 19 = .ok (.iload_n 3, 1) := by decide +kernel
theorem dX12_isCube_20 : decode cX12_isCube 20 = .ok (.iconst 0, 1) := by decide +kernel
theorem dX12_isCube_21 : decode cX12_isCube 21 = .ok (.invokestatic 154, 3) := by decide +kernel
theorem dX12_isCube_24 : decode cX12_isCube 24 = .ok (.iadd, 1) := by decide +kernel
theorem dX12_isCube_25 : decode cX12_isCube 25 = .ok (.istore 4, 2) := by decide +kernel
theorem dX12_isCube_27 : decode cX12_isCube 27 = .ok (.iload_n 1, 1) := by decide +kernel
theorem dX12_isCube_28 : decode cX12_isCube 28 = .ok (.invokestatic 189, 3) := by decide +kernel
theorem dX12_isCube_31 : decode cX12_isCube 31 = .ok (.iload_n 2, 1) := by decide +kernel
theorem dX12_isCube_32 : decode cX12_isCube 32 = .ok (.iconst 1, 1) := by decide +kernel
theorem dX12_isCube_33 : decode cX12_isCube 33 = .ok (.invokestatic 154, 3) := by decide +kernel
theorem dX12_isCube_36 : decode cX12_isCube 36 = .ok (.iadd, 1) := by decide +kernel
theorem dX12_isCube_37 : decode cX12_isCube 37 = .ok (.iload_n 3, 1) := by decide +kernel
theorem dX12_isCube_38 : decode cX12_isCube 38 = .ok (.iconst (-1), 1) := by decide +kernel
theorem dX12_isCube_39 : decode cX12_isCube 39 = .ok (.if_icmp .ne 7, 3) := by decide +kernel
theorem dX12_isCube_42 : decode cX12_isCube 42 = .ok (.iconst 0, 1) := by decide +kernel
theorem dX12_isCube_43 : decode cX12_isCube 43 = .ok (.goto 8, 3) := by decide +kernel
theorem dX12_isCube_46 : decode cX12_isCube 46 = .ok (.iload_n 3, 1) := by decide +kernel
theorem dX12_isCube_47 : decode cX12_isCube 47 = .ok (.iconst 1, 1) := by decide +kernel
theorem dX12_isCube_48 : decode cX12_isCube 48 = .ok (.invokestatic 154, 3) := by decide +kernel
theorem dX12_isCube_51 : decode cX12_isCube 51 = .ok (.iadd, 1) := by decide +kernel
theorem dX12_isCube_52 : decode cX12_isCube 52 = .ok (.istore 5, 2) := by decide +kernel
theorem dX12_isCube_54 : decode cX12_isCube 54 = .ok (.iload_n 1, 1) := by decide +kernel
theorem dX12_isCube_55 : decode cX12_isCube 55 = .ok (.invokestatic 192, 3) := by decide +kernel
theorem dX12_isCube_58 : decode cX12_isCube 58 = .ok (.iload_n 2, 1) := by decide +kernel
theorem dX12_isCube_59 : decode cX12_isCube 59 = .ok (.iconst 2, 1) := by decide +kernel
theorem dX12_isCube_60 : decode cX12_isCube 60 = .ok (.invokestatic 154, 3) := by decide +kernel
theorem dX12_isCube_63 : decode cX12_isCube 63 = .ok (.iadd, 1) := by decide +kernel
theorem dX12_isCube_64 : decode cX12_isCube 64 = .ok (.iload_n 3, 1) := by decide +kernel
theorem dX12_isCube_65 : decode cX12_isCube 65 = .ok (.iconst (-1), 1) := by decide +kernel
theorem dX12_isCube_66 : decode cX12_isCube 66 = .ok (.if_icmp .ne 7, 3) := by decide +kernel
theorem dX12_isCube_69 : decode cX12_isCube 69 = .ok (.iconst 0, 1) := by decide +kernel
theorem dX12_isCube_70 : decode cX12_isCube 70 = .ok (.goto 8, 3) := by decide +kernel
theorem dX12_isCube_73 : decode cX12_isCube 73 = .ok (.iload_n 3, 1) := by decide +kernel
theorem dX12_isCube_74 : decode cX12_isCube 74 = .ok (.iconst 2, 1) := by decide +kernel
theorem dX12_isCube_75 : decode cX12_isCube 75 = .ok (.invokestatic 154, 3) := by decide +kernel
theorem dX12_isCube_78 : decode cX12_isCube 78 = .ok (.iadd, 1) := by decide +kernel
theorem dX12_isCube_79 : decode cX12_isCube 79 = .ok (.istore 6, 2) := by decide +kernel
theorem dX12_isCube_81 : decode cX12_isCube 81 = .ok (.aload_n 0, 1) := by decide +kernel
theorem dX12_isCube_82 : decode cX12_isCube 82 = .ok (.iload 4, 2) := by decide +kernel
theorem dX12_isCube_84 : decode cX12_isCube 84 = .ok (.iload 5, 2) := by decide +kernel
theorem dX12_isCube_86 : decode cX12_isCube 86 = .ok (.iload 6, 2) := by decide +kernel
theorem dX12_isCube_88 : decode cX12_isCube 88 = .ok (.invokevirtual 150, 3) := by decide +kernel
theorem dX12_isCube_91 : decode cX12_isCube 91 = .ok (.iconst 1, 1) := by decide +kernel
theorem dX12_isCube_92 : decode cX12_isCube 92 = .ok (.if_icmp .ne 7, 3) := by decide +kernel
theorem dX12_isCube_95 : decode cX12_isCube 95 = .ok (.iconst 1, 1) := by decide +kernel
theorem dX12_isCube_96 : decode cX12_isCube 96 = .ok (.goto 4, 3) := by decide +kernel
theorem dX12_isCube_99 : decode cX12_isCube 99 = .ok (.iconst 0, 1) := by decide +kernel
theorem dX12_isCube_100 : decode cX12_isCube 100 = .ok (.ireturn, 1) := by decide +kernel
theorem dX12_cubeBy_0 : decode cX12_cubeBy 0 = .ok (.iload_n 0, 1) := by decide +kernel
theorem dX12_cubeBy_1 : decode cX12_cubeBy 1 = .ok (.iload_n 1, 1) := by decide +kernel
theorem dX12_cubeBy_2 : decode cX12_cubeBy 2 = .ok (.iconst 0, 1) := by decide +kernel
theorem dX12_cubeBy_3 : decode cX12_cubeBy 3 = .ok (.invokestatic 154, 3) := by decide +kernel
theorem dX12_cubeBy_6 : decode cX12_cubeBy 6 = .ok (.iadd, 1) := by decide +kernel
theorem dX12_cubeBy_7 : decode cX12_cubeBy 7 = .ok (.iconst 4, 1) := by decide +kernel
theorem dX12_cubeBy_8 : decode cX12_cubeBy 8 = .ok (.iload_n 1, 1) := by decide +kernel
theorem dX12_cubeBy_9 : decode cX12_cubeBy 9 = .ok (.iconst 1, 1) := by decide +kernel
theorem dX12_cubeBy_10 : decode cX12_cubeBy 10 = .ok (.invokestatic 154, 3) := by decide +kernel
theorem dX12_cubeBy_13 : decode cX12_cubeBy 13 = .ok (.imul, 1) := by decide +kernel
theorem dX12_cubeBy_14 : decode cX12_cubeBy 14 = .ok (.iadd, 1) := by decide +kernel
theorem dX12_cubeBy_15 : decode cX12_cubeBy 15 = .ok (.bipush 16, 2) := by decide +kernel
theorem dX12_cubeBy_17 : decode cX12_cubeBy 17 = .ok (.iload_n 1, 1) := by decide +kernel
theorem dX12_cubeBy_18 : decode cX12_cubeBy 18 = .ok (.iconst 2, 1) := by decide +kernel
theorem dX12_cubeBy_19 : decode cX12_cubeBy 19 = .ok (.invokestatic 154, 3) := by decide +kernel
theorem dX12_cubeBy_22 : decode cX12_cubeBy 22 = .ok (.imul, 1) := by decide +kernel
theorem dX12_cubeBy_23 : decode cX12_cubeBy 23 = .ok (.iadd, 1) := by decide +kernel
theorem dX12_cubeBy_24 : decode cX12_cubeBy 24 = .ok (.ireturn, 1) := by decide +kernel
theorem dX12_findSkin_0 : decode cX12_findSkin 0 = .ok (.aload_n 0, 1) := by decide +kernel
theorem dX12_findSkin_1 : decode cX12_findSkin 1 = .ok (.iconst 0, 1) := by decide +kernel
theorem dX12_findSkin_2 : decode cX12_findSkin 2 = .ok (.putfield 195, 3) := by decide +kernel
theorem dX12_findSkin_5 : decode cX12_findSkin 5 = .ok (.iconst 0, 1) := by decide +kernel
theorem dX12_findSkin_6 : decode cX12_findSkin 6 = .ok (.istore_n 1, 1) := by decide +kernel
theorem dX12_findSkin_7 : decode cX12_findSkin 7 = .ok (.iload_n 1, 1) := by decide +kernel
theorem dX12_findSkin_8 : decode cX12_findSkin 8 = .ok (.bipush 64, 2) := by decide +kernel
theorem dX12_findSkin_10 : decode cX12_findSkin 10 = .ok (.if_icmp .ge 88, 3) := by decide +kernel
theorem dX12_findSkin_13 : decode cX12_findSkin 13 = .ok (.iconst 0, 1) := by decide +kernel
theorem dX12_findSkin_14 : decode cX12_findSkin 14 = .ok (.istore_n 2, 1) := by decide +kernel
theorem dX12_findSkin_15 : decode cX12_findSkin 15 = .ok (.iload_n 2, 1) := by decide +kernel
theorem dX12_findSkin_16 : decode cX12_findSkin 16 = .ok (.bipush 6, 2) := by decide +kernel
theorem dX12_findSkin_18 : decode cX12_findSkin 18 = .ok (.if_icmp .ge 74, 3) := by decide +kernel
theorem dX12_findSkin_21 : decode cX12_findSkin 21 = .ok (.aload_n 0, 1) := by decide +kernel
theorem dX12_findSkin_22 : decode cX12_findSkin 22 = .ok (.getfield 13, 3) := by decide +kernel
theorem dX12_findSkin_25 : decode cX12_findSkin 25 = .ok (.iload_n 1, 1) := by decide +kernel
theorem dX12_findSkin_26 : decode cX12_findSkin 26 = .ok (.iaload, 1) := by decide +kernel
theorem dX12_findSkin_27 : decode cX12_findSkin 27 = .ok (.iconst 1, 1) := by decide +kernel
theorem dX12_findSkin_28 : decode cX12_findSkin 28 = .ok (.if_icmp .ne 64, 3) := by decide +kernel
theorem dX12_findSkin_31 : decode cX12_findSkin 31 = .ok (.aload_n 0, 1) := by decide +kernel
theorem dX12_findSkin_32 : decode cX12_findSkin 32 = .ok (.iload_n 1, 1) := by decide +kernel
theorem dX12_findSkin_33 : decode cX12_findSkin 33 = .ok (.iload_n 2, 1) := by decide +kernel
theorem dX12_findSkin_34 : decode cX12_findSkin 34 = .ok (.iconst (-1), 1) := by decide +kernel
theorem dX12_findSkin_35 : decode cX12_findSkin 35 = .ok (.invokevirtual 198, 3) := by decide +kernel
theorem dX12_findSkin_38 : decode cX12_findSkin 38 = .ok (.ifCond .ne 48, 3) := by decide +kernel
theorem dX12_findSkin_41 : decode cX12_findSkin 41 = .ok (.aload_n 0, 1) := by decide +kernel
theorem dX12_findSkin_42 : decode cX12_findSkin 42 = .ok (.getfield 46, 3) := by decide +kernel
theorem dX12_findSkin_45 : decode cX12_findSkin 45 = .ok (.aload_n 0, 1) := by decide +kernel
theorem dX12_findSkin_46 : decode cX12_findSkin 46 = .ok (.getfield 195, 3) := by decide +kernel
theorem dX12_findSkin_49 : decode cX12_findSkin 49 = .ok (.iload_n 1, 1) := by decide +kernel
theorem dX12_findSkin_50 : decode cX12_findSkin 50 = .ok (.iastore, 1) := by decide +kernel
theorem dX12_findSkin_51 : decode cX12_findSkin 51 = .ok (.aload_n 0, 1) := by decide +kernel
theorem dX12_findSkin_52 : decode cX12_findSkin 52 = .ok (.getfield 49, 3) := by decide +kernel
theorem dX12_findSkin_55 : decode cX12_findSkin 55 = .ok (.aload_n 0, 1) := by decide +kernel
theorem dX12_findSkin_56 : decode cX12_findSkin 56 = .ok (.getfield 195, 3) := by decide +kernel
theorem dX12_findSkin_59 : decode cX12_findSkin 59 = .ok (.iload_n 2, 1) := by decide +kernel
theorem dX12_findSkin_60 : decode cX12_findSkin 60 = .ok (.iastore, 1) := by decide +kernel
theorem dX12_findSkin_61 : decode cX12_findSkin 61 = .ok (.aload_n 0, 1) := by decide +kernel
theorem dX12_findSkin_62 : decode cX12_findSkin 62 = .ok (.getfield 52, 3) := by decide +kernel
theorem dX12_findSkin_65 : decode cX12_findSkin 65 = .ok (.bipush 6, 2) := by decide +kernel
theorem dX12_findSkin_67 : decode cX12_findSkin 67 = .ok (.iload_n 1, 1) := by decide +kernel
theorem dX12_findSkin_68 : decode cX12_findSkin 68 = .ok (.imul, 1) := by decide +kernel
theorem dX12_findSkin_69 : decode cX12_findSkin 69 = .ok (.iload_n 2, 1) := by decide +kernel
theorem dX12_findSkin_70 : decode cX12_findSkin 70 = .ok (.iadd, 1) := by decide +kernel
theorem dX12_findSkin_71 : decode cX12_findSkin 71 = .ok (.aload_n 0, 1) := by decide +kernel
theorem dX12_findSkin_72 : decode cX12_findSkin 72 = .ok (.getfield 195, 3) := by decide +kernel
theorem dX12_findSkin_75 : decode cX12_findSkin 75 = .ok (.iastore, 1) := by decide +kernel
theorem dX12_findSkin_76 : decode cX12_findSkin 76 = .ok (.aload_n 0, 1) := by decide +kernel
theorem dX12_findSkin_77 : decode cX12_findSkin 77 = .ok (.dup, 1) := by decide +kernel
theorem dX12_findSkin_78 : decode cX12_findSkin 78 = .ok (.getfield 195, 3) := by decide +kernel
theorem dX12_findSkin_81 : decode cX12_findSkin 81 = .ok (.iconst 1, 1) := by decide +kernel
theorem dX12_findSkin_82 : decode cX12_findSkin 82 = .ok (.iadd, 1) := by decide +kernel
theorem dX12_findSkin_83 : decode cX12_findSkin 83 = .ok (.putfield 195, 3) := by decide +kernel
theorem dX12_findSkin_86 : decode cX12_findSkin 86 = .ok (.iinc 2 1, 3) := by decide +kernel
theorem dX12_findSkin_89 : decode cX12_findSkin 89 = .ok (.goto (-74), 3) := by decide +kernel
theorem dX12_findSkin_92 : decode cX12_findSkin 92 = .ok (.iinc 1 1, 3) := by decide +kernel
theorem dX12_findSkin_95 : decode cX12_findSkin 95 = .ok (.goto (-88), 3) := by decide +kernel
theorem dX12_findSkin_98 : decode cX12_findSkin 98 = .ok (.return_, 1) := by decide +kernel
theorem dX12_squareOf_0 : decode cX12_squareOf 0 = .ok (.aload_n 0, 1) := by decide +kernel
theorem dX12_squareOf_1 : decode cX12_squareOf 1 = .ok (.getfield 52, 3) := by decide +kernel
theorem dX12_squareOf_4 : decode cX12_squareOf 4 = .ok (.bipush 6, 2) := by decide +kernel
theorem dX12_squareOf_6 : decode cX12_squareOf 6 = .ok (.iload_n 1, 1) := by decide +kernel
theorem dX12_squareOf_7 : decode cX12_squareOf 7 = .ok (.imul, 1) := by decide +kernel
theorem dX12_squareOf_8 : decode cX12_squareOf 8 = .ok (.iload_n 2, 1) := by decide +kernel
theorem dX12_squareOf_9 : decode cX12_squareOf 9 = .ok (.iadd, 1) := by decide +kernel
theorem dX12_squareOf_10 : decode cX12_squareOf 10 = .ok (.iaload, 1) := by decide +kernel
theorem dX12_squareOf_11 : decode cX12_squareOf 11 = .ok (.ireturn, 1) := by decide +kernel
theorem dX12_looks_0 : decode cX12_looks 0 = .ok (.iconst 2, 1) := by decide +kernel
theorem dX12_looks_1 : decode cX12_looks 1 = .ok (.iload_n 0, 1) := by decide +kernel
theorem dX12_looks_2 : decode cX12_looks 2 = .ok (.iconst 2, 1) := by decide +kernel
theorem dX12_looks_3 : decode cX12_looks 3 = .ok (.idiv, 1) := by decide +kernel
theorem dX12_looks_4 : decode cX12_looks 4 = .ok (.iconst 1, 1) := by decide +kernel
theorem dX12_looks_5 : decode cX12_looks 5 = .ok (.iadd, 1) := by decide +kernel
theorem dX12_looks_6 : decode cX12_looks 6 = .ok (.iconst 3, 1) := by decide +kernel
theorem dX12_looks_7 : decode cX12_looks 7 = .ok (.irem, 1) := by decide +kernel
theorem dX12_looks_8 : decode cX12_looks 8 = .ok (.imul, 1) := by decide +kernel
theorem dX12_looks_9 : decode cX12_looks 9 = .ok (.istore_n 2, 1) := by decide +kernel
theorem dX12_looks_10 : decode cX12_looks 10 = .ok (.iconst 2, 1) := by decide +kernel
theorem dX12_looks_11 : decode cX12_looks 11 = .ok (.iload_n 0, 1) := by decide +kernel
theorem dX12_looks_12 : decode cX12_looks 12 = .ok (.iconst 2, 1) := by decide +kernel
theorem dX12_looks_13 : decode cX12_looks 13 = .ok (.idiv, 1) := by decide +kernel
theorem dX12_looks_14 : decode cX12_looks 14 = .ok (.iconst 2, 1) := by decide +kernel
theorem dX12_looks_15 : decode cX12_looks 15 = .ok (.iadd, 1) := by decide +kernel
theorem dX12_looks_16 : decode cX12_looks 16 = .ok (.iconst 3, 1) := by decide +kernel
theorem dX12_looks_17 : decode cX12_looks 17 = .ok (.irem, 1) := by decide +kernel
theorem dX12_looks_18 : decode cX12_looks 18 = .ok (.imul, 1) := by decide +kernel
theorem dX12_looks_19 : decode cX12_looks 19 = .ok (.istore_n 3, 1) := by decide +kernel
theorem dX12_looks_20 : decode cX12_looks 20 = .ok (.iload_n 0, 1) := by decide +kernel
theorem dX12_looks_21 : decode cX12_looks 21 = .ok (.iconst 2, 1) := by decide +kernel
theorem dX12_looks_22 : decode cX12_looks 22 = .ok (.irem, 1) := by decide +kernel
theorem dX12_looks_23 : decode cX12_looks 23 = .ok (.iconst 1, 1) := by decide +kernel
theorem dX12_looks_24 : decode cX12_looks 24 = .ok (.if_icmp .ne 7, 3) := by decide +kernel
theorem dX12_looks_27 : decode cX12_looks 27 = .ok (.iconst 1, 1) := by decide +kernel
theorem dX12_looks_28 : decode cX12_looks 28 = .ok (.goto 4, 3) := by decide +kernel
theorem dX12_looks_31 : decode cX12_looks 31 = .ok (.iconst 0, 1) := by decide +kernel
theorem dX12_looks_32 : decode cX12_looks 32 = .ok (.istore 4, 2) := by decide +kernel
theorem dX12_looks_34 : decode cX12_looks 34 = .ok (.iload_n 1, 1) := by decide +kernel
theorem dX12_looks_35 : decode cX12_looks 35 = .ok (.ifCond .ne 7, 3) := by decide +kernel
theorem dX12_looks_38 : decode cX12_looks 38 = .ok (.iload_n 2, 1) := by decide +kernel
theorem dX12_looks_39 : decode cX12_looks 39 = .ok (.goto 36, 3) := by decide +kernel
theorem dX12_looks_42 : decode cX12_looks 42 = .ok (.iload_n 1, 1) := by decide +kernel
theorem dX12_looks_43 : decode cX12_looks 43 = .ok (.iconst 2, 1) := by decide +kernel
theorem dX12_looks_44 : decode cX12_looks 44 = .ok (.if_icmp .ne 9, 3) := by decide +kernel
theorem dX12_looks_47 : decode cX12_looks 47 = .ok (.iload_n 2, 1) := by decide +kernel
theorem dX12_looks_48 : decode cX12_looks 48 = .ok (.iconst 1, 1) := by decide +kernel
theorem dX12_looks_49 : decode cX12_looks 49 = .ok (.iadd, 1) := by decide +kernel
theorem dX12_looks_50 : decode cX12_looks 50 = .ok (.goto 25, 3) := by decide +kernel
theorem dX12_looks_53 : decode cX12_looks 53 = .ok (.iload_n 1, 1) := by decide +kernel
theorem dX12_looks_54 : decode cX12_looks 54 = .ok (.iconst 1, 1) := by decide +kernel
theorem dX12_looks_55 : decode cX12_looks 55 = .ok (.if_icmp .ne 7, 3) := by decide +kernel
theorem dX12_looks_58 : decode cX12_looks 58 = .ok (.iconst 1, 1) := by decide +kernel
theorem dX12_looks_59 : decode cX12_looks 59 = .ok (.goto 4, 3) := by decide +kernel
theorem dX12_looks_62 : decode cX12_looks 62 = .ok (.iconst 0, 1) := by decide +kernel
theorem dX12_looks_63 : decode cX12_looks 63 = .ok (.iload 4, 2) := by decide +kernel
theorem dX12_looks_65 : decode cX12_looks 65 = .ok (.if_icmp .ne 9, 3) := by decide +kernel
theorem dX12_looks_68 : decode cX12_looks 68 = .ok (.iload_n 3, 1) := by decide +kernel
theorem dX12_looks_69 : decode cX12_looks 69 = .ok (.iconst 1, 1) := by decide +kernel
theorem dX12_looks_70 : decode cX12_looks 70 = .ok (.iadd, 1) := by decide +kernel
theorem dX12_looks_71 : decode cX12_looks 71 = .ok (.goto 4, 3) := by decide +kernel
theorem dX12_looks_74 : decode cX12_looks 74 = .ok (.iload_n 3, 1) := by decide +kernel
theorem dX12_looks_75 : decode cX12_looks 75 = .ok (.ireturn, 1) := by decide +kernel
theorem dX12_edgeAt_0 : decode cX12_edgeAt 0 = .ok (.iload_n 3, 1) := by decide +kernel
theorem dX12_edgeAt_1 : decode cX12_edgeAt 1 = .ok (.ifCond .ne 10, 3) := by decide +kernel
theorem dX12_edgeAt_4 : decode cX12_edgeAt 4 = .ok (.iload_n 0, 1) := by decide +kernel
theorem dX12_edgeAt_5 : decode cX12_edgeAt 5 = .ok (.invokestatic 186, 3) := by decide +kernel
theorem dX12_edgeAt_8 : decode cX12_edgeAt 8 = .ok (.goto 19, 3) := by decide +kernel
theorem dX12_edgeAt_11 : decode cX12_edgeAt 11 = .ok (.iload_n 3, 1) := by decide +kernel
theorem dX12_edgeAt_12 : decode cX12_edgeAt 12 = .ok (.iconst 1, 1) := by decide +kernel
theorem dX12_edgeAt_13 : decode cX12_edgeAt 13 = .ok (.if_icmp .ne 10, 3) := by decide +kernel
theorem dX12_edgeAt_16 : decode cX12_edgeAt 16 = .ok (.iload_n 0, 1) := by decide +kernel
theorem dX12_edgeAt_17 : decode cX12_edgeAt 17 = .ok (.invokestatic 189, 3) := by decide +kernel
theorem dX12_edgeAt_20 : decode cX12_edgeAt 20 = .ok (.goto 7, 3) := by decide +kernel
theorem dX12_edgeAt_23 : decode cX12_edgeAt 23 = .ok (.iload_n 0, 1) := by decide +kernel
theorem dX12_edgeAt_24 : decode cX12_edgeAt 24 = .ok (.invokestatic 192, 3) := by decide +kernel
theorem dX12_edgeAt_27 : decode cX12_edgeAt 27 = .ok (.istore 4, 2) := by decide +kernel
theorem dX12_edgeAt_29 : decode cX12_edgeAt 29 = .ok (.iconst 2, 1) := by decide +kernel
theorem dX12_edgeAt_30 : decode cX12_edgeAt 30 = .ok (.iload 4, 2) := by decide +kernel
theorem dX12_edgeAt_32 : decode cX12_edgeAt 32 = .ok (.imul, 1) := by decide +kernel
theorem dX12_edgeAt_33 : decode cX12_edgeAt 33 = .ok (.iload_n 1, 1) := by decide +kernel
theorem dX12_edgeAt_34 : decode cX12_edgeAt 34 = .ok (.iload_n 3, 1) := by decide +kernel
theorem dX12_edgeAt_35 : decode cX12_edgeAt 35 = .ok (.invokestatic 154, 3) := by decide +kernel
theorem dX12_edgeAt_38 : decode cX12_edgeAt 38 = .ok (.iadd, 1) := by decide +kernel
theorem dX12_edgeAt_39 : decode cX12_edgeAt 39 = .ok (.iload_n 1, 1) := by decide +kernel
theorem dX12_edgeAt_40 : decode cX12_edgeAt 40 = .ok (.iload_n 2, 1) := by decide +kernel
theorem dX12_edgeAt_41 : decode cX12_edgeAt 41 = .ok (.invokestatic 201, 3) := by decide +kernel
theorem dX12_edgeAt_44 : decode cX12_edgeAt 44 = .ok (.iload_n 3, 1) := by decide +kernel
theorem dX12_edgeAt_45 : decode cX12_edgeAt 45 = .ok (.invokestatic 154, 3) := by decide +kernel
theorem dX12_edgeAt_48 : decode cX12_edgeAt 48 = .ok (.iadd, 1) := by decide +kernel
theorem dX12_edgeAt_49 : decode cX12_edgeAt 49 = .ok (.ireturn, 1) := by decide +kernel
theorem dX12_findAcross_0 : decode cX12_findAcross 0 = .ok (.aload_n 0, 1) := by decide +kernel
theorem dX12_findAcross_1 : decode cX12_findAcross 1 = .ok (.getfield 46, 3) := by decide +kernel
theorem dX12_findAcross_4 : decode cX12_findAcross 4 = .ok (.iload_n 1, 1) := by decide +kernel
theorem dX12_findAcross_5 : decode cX12_findAcross 5 = .ok (.iaload, 1) := by decide +kernel
theorem dX12_findAcross_6 : decode cX12_findAcross 6 = .ok (.istore_n 3, 1) := by decide +kernel
theorem dX12_findAcross_7 : decode cX12_findAcross 7 = .ok (.aload_n 0, 1) := by decide +kernel
theorem dX12_findAcross_8 : decode cX12_findAcross 8 = .ok (.getfield 49, 3) := by decide +kernel
theorem dX12_findAcross_11 : decode cX12_findAcross 11 = .ok (.iload_n 1, 1) := by decide +kernel
theorem dX12_findAcross_12 : decode cX12_findAcross 12 = .ok (.iaload, 1) := by decide +kernel
theorem dX12_findAcross_13 : decode cX12_findAcross 13 = .ok (.istore 4, 2) := by decide +kernel
theorem dX12_findAcross_15 : decode cX12_findAcross 15 = .ok (.iload 4, 2) := by decide +kernel
theorem dX12_findAcross_17 : decode cX12_findAcross 17 = .ok (.iload_n 2, 1) := by decide +kernel
theorem dX12_findAcross_18 : decode cX12_findAcross 18 = .ok (.invokestatic 201, 3) := by decide +kernel
theorem dX12_findAcross_21 : decode cX12_findAcross 21 = .ok (.istore 5, 2) := by decide +kernel
theorem dX12_findAcross_23 : decode cX12_findAcross 23 = .ok (.iload_n 3, 1) := by decide +kernel
theorem dX12_findAcross_24 : decode cX12_findAcross 24 = .ok (.istore 6, 2) := by decide +kernel
theorem dX12_findAcross_26 : decode cX12_findAcross 26 = .ok (.iload 5, 2) := by decide +kernel
theorem dX12_findAcross_28 : decode cX12_findAcross 28 = .ok (.istore 7, 2) := by decide +kernel
theorem dX12_findAcross_30 : decode cX12_findAcross 30 = .ok (.aload_n 0, 1) := by decide +kernel
theorem dX12_findAcross_31 : decode cX12_findAcross 31 = .ok (.iconst 1, 1) := by decide +kernel
theorem dX12_findAcross_32 : decode cX12_findAcross 32 = .ok (.putfield 204, 3) := by decide +kernel
theorem dX12_findAcross_35 : decode cX12_findAcross 35 = .ok (.aload_n 0, 1) := by decide +kernel
theorem dX12_findAcross_36 : decode cX12_findAcross 36 = .ok (.iload_n 3, 1) := by decide +kernel
theorem dX12_findAcross_37 : decode cX12_findAcross 37 = .ok (.iload 5, 2) := by decide +kernel
theorem dX12_findAcross_39 : decode cX12_findAcross 39 = .ok (.iload 4, 2) := by decide +kernel
theorem dX12_findAcross_41 : decode cX12_findAcross 41 = .ok (.invokevirtual 198, 3) := by decide +kernel
theorem dX12_findAcross_44 : decode cX12_findAcross 44 = .ok (.ifCond .eq 30, 3) := by decide +kernel
theorem dX12_findAcross_47 : decode cX12_findAcross 47 = .ok (.aload_n 0, 1) := by decide +kernel
theorem dX12_findAcross_48 : decode cX12_findAcross 48 = .ok (.iconst (-1), 1) := by decide +kernel
theorem dX12_findAcross_49 : decode cX12_findAcross 49 = .ok (.putfield 204, 3) := by decide +kernel
theorem dX12_findAcross_52 : decode cX12_findAcross 52 = .ok (.iload_n 3, 1) := by decide +kernel
theorem dX12_findAcross_53 : decode cX12_findAcross 53 = .ok (.iload 5, 2) := by decide +kernel
theorem dX12_findAcross_55 : decode cX12_findAcross 55 = .ok (.invokestatic 207, 3) := by decide +kernel
theorem dX12_findAcross_58 : decode cX12_findAcross 58 = .ok (.iload 4, 2) := by decide +kernel
theorem dX12_findAcross_60 : decode cX12_findAcross 60 = .ok (.invokestatic 207, 3) := by decide +kernel
theorem dX12_findAcross_63 : decode cX12_findAcross 63 = .ok (.istore 6, 2) := by decide +kernel
theorem dX12_findAcross_65 : decode cX12_findAcross 65 = .ok (.iload 5, 2) := by decide +kernel
theorem dX12_findAcross_67 : decode cX12_findAcross 67 = .ok (.iconst 1, 1) := by decide +kernel
theorem dX12_findAcross_68 : decode cX12_findAcross 68 = .ok (.ixor, 1) := by decide +kernel
theorem dX12_findAcross_69 : decode cX12_findAcross 69 = .ok (.istore 7, 2) := by decide +kernel
theorem dX12_findAcross_71 : decode cX12_findAcross 71 = .ok (.goto 31, 3) := by decide +kernel
theorem dX12_findAcross_74 : decode cX12_findAcross 74 = .ok (.aload_n 0, 1) := by decide +kernel
theorem dX12_findAcross_75 : decode cX12_findAcross 75 = .ok (.iload_n 3, 1) := by decide +kernel
theorem dX12_findAcross_76 : decode cX12_findAcross 76 = .ok (.iload 5, 2) := by decide +kernel
theorem dX12_findAcross_78 : decode cX12_findAcross 78 = .ok (.iconst (-1), 1) := by decide +kernel
theorem dX12_findAcross_79 : decode cX12_findAcross 79 = .ok (.invokevirtual 198, 3) := by decide +kernel
theorem dX12_findAcross_82 : decode cX12_findAcross 82 = .ok (.ifCond .eq 20, 3) := by decide +kernel
theorem dX12_findAcross_85 : decode cX12_findAcross 85 = .ok (.aload_n 0, 1) := by decide +kernel
theorem dX12_findAcross_86 : decode cX12_findAcross 86 = .ok (.iconst 0, 1) := by decide +kernel
theorem dX12_findAcross_87 : decode cX12_findAcross 87 = .ok (.putfield 204, 3) := by decide +kernel
theorem dX12_findAcross_90 : decode cX12_findAcross 90 = .ok (.iload_n 3, 1) := by decide +kernel
theorem dX12_findAcross_91 : decode cX12_findAcross 91 = .ok (.iload 5, 2) := by decide +kernel
theorem dX12_findAcross_93 : decode cX12_findAcross 93 = .ok (.invokestatic 207, 3) := by decide +kernel
theorem dX12_findAcross_96 : decode cX12_findAcross 96 = .ok (.istore 6, 2) := by decide +kernel
theorem dX12_findAcross_98 : decode cX12_findAcross 98 = .ok (.iload 4, 2) := by decide +kernel
theorem dX12_findAcross_100 : decode cX12_findAcross 100 = .ok (.istore 7, 2) := by decide +kernel
theorem dX12_findAcross_102 : decode cX12_findAcross 102 = .ok (.aload_n 0, 1) := by decide +kernel
theorem dX12_findAcross_103 : decode cX12_findAcross 103 = .ok (.aload_n 0, 1) := by decide +kernel
theorem dX12_findAcross_104 : decode cX12_findAcross 104 = .ok (.iload 6, 2) := by decide +kernel
theorem dX12_findAcross_106 : decode cX12_findAcross 106 = .ok (.iload 7, 2) := by decide +kernel
theorem dX12_findAcross_108 : decode cX12_findAcross 108 = .ok (.invokevirtual 210, 3) := by decide +kernel
theorem dX12_findAcross_111 : decode cX12_findAcross 111 = .ok (.putfield 213, 3) := by decide +kernel
theorem dX12_findAcross_114 : decode cX12_findAcross 114 = .ok (.iconst 0, 1) := by decide +kernel
theorem dX12_findAcross_115 : decode cX12_findAcross 115 = .ok (.istore 8, 2) := by decide +kernel
theorem dX12_findAcross_117 : decode cX12_findAcross 117 = .ok (.iload 8, 2) := by decide +kernel
theorem dX12_findAcross_119 : decode cX12_findAcross 119 = .ok (.iconst 4, 1) := by decide +kernel
theorem dX12_findAcross_120 : decode cX12_findAcross 120 = .ok (.if_icmp .ge 80, 3) := by decide +kernel
theorem dX12_findAcross_123 : decode cX12_findAcross 123 = .ok (.iconst 1, 1) := by decide +kernel
theorem dX12_findAcross_124 : decode cX12_findAcross 124 = .ok (.istore 9, 2) := by decide +kernel
theorem dX12_findAcross_126 : decode cX12_findAcross 126 = .ok (.iconst 0, 1) := by decide +kernel
theorem dX12_findAcross_127 : decode cX12_findAcross 127 = .ok (.istore 10, 2) := by decide +kernel
theorem dX12_findAcross_129 : decode cX12_findAcross 129 = .ok (.iload 10, 2) := by decide +kernel
theorem dX12_findAcross_131 : decode cX12_findAcross 131 = .ok (.iconst 3, 1) := by decide +kernel
theorem dX12_findAcross_132 : decode cX12_findAcross 132 = .ok (.if_icmp .ge 44, 3) := by decide +kernel
theorem dX12_findAcross_135 : decode cX12_findAcross 135 = .ok (.iload 9, 2) := by decide +kernel
theorem dX12_findAcross_137 : decode cX12_findAcross 137 = .ok (.ifCond .eq 30, 3) := by decide +kernel
theorem dX12_findAcross_140 : decode cX12_findAcross 140 = .ok (.iload 6, 2) := by decide +kernel
theorem dX12_findAcross_142 : decode cX12_findAcross 142 = .ok (.iload 7, 2) := by decide +kernel
theorem dX12_findAcross_144 : decode cX12_findAcross 144 = .ok (.iload 8, 2) := by decide +kernel
theorem dX12_findAcross_146 : decode cX12_findAcross 146 = .ok (.iload 10, 2) := by decide +kernel
theorem dX12_findAcross_148 : decode cX12_findAcross 148 = .ok (.invokestatic 216, 3) := by decide +kernel
theorem dX12_findAcross_151 : decode cX12_findAcross 151 = .ok (.iload_n 3, 1) := by decide +kernel
theorem dX12_findAcross_152 : decode cX12_findAcross 152 = .ok (.iload 4, 2) := by decide +kernel
theorem dX12_findAcross_154 : decode cX12_findAcross 154 = .ok (.iload_n 2, 1) := by decide +kernel
theorem dX12_findAcross_155 : decode cX12_findAcross 155 = .ok (.iload 10, 2) := by decide +kernel
theorem dX12_findAcross_157 : decode cX12_findAcross 157 = .ok (.invokestatic 216, 3) := by decide +kernel
theorem dX12_findAcross_160 : decode cX12_findAcross 160 = .ok (.if_icmp .ne 7, 3) := by decide +kernel
theorem dX12_findAcross_163 : decode cX12_findAcross 163 = .ok (.iconst 1, 1) := by decide +kernel
theorem dX12_findAcross_164 : decode cX12_findAcross 164 = .ok (.goto 4, 3) := by decide +kernel
theorem dX12_findAcross_167 : decode cX12_findAcross 167 = .ok (.iconst 0, 1) := by decide +kernel
theorem dX12_findAcross_168 : decode cX12_findAcross 168 = .ok (.istore 9, 2) := by decide +kernel
theorem dX12_findAcross_170 : decode cX12_findAcross 170 = .ok (.iinc 10 1, 3) := by decide +kernel
theorem dX12_findAcross_173 : decode cX12_findAcross 173 = .ok (.goto (-44), 3) := by decide +kernel
theorem dX12_findAcross_176 : decode cX12_findAcross 176 = .ok (.aload_n 0, 1) := by decide +kernel
theorem dX12_findAcross_177 : decode cX12_findAcross 177 = .ok (.iload 9, 2) := by decide +kernel
theorem dX12_findAcross_179 : decode cX12_findAcross 179 = .ok (.ifCond .eq 8, 3) := by decide +kernel
theorem dX12_findAcross_182 : decode cX12_findAcross 182 = .ok (.iload 8, 2) := by decide +kernel
theorem dX12_findAcross_184 : decode cX12_findAcross 184 = .ok (.goto 7, 3) := by decide +kernel
theorem dX12_findAcross_187 : decode cX12_findAcross 187 = .ok (.aload_n 0, 1) := by decide +kernel
theorem dX12_findAcross_188 : decode cX12_findAcross 188 = .ok (.getfield 220, 3) := by decide +kernel
theorem dX12_findAcross_191 : decode cX12_findAcross 191 = .ok (.putfield 220, 3) := by decide +kernel
theorem dX12_findAcross_194 : decode cX12_findAcross 194 = .ok (.iinc 8 1, 3) := by decide +kernel
theorem dX12_findAcross_197 : decode cX12_findAcross 197 = .ok (.goto (-80), 3) := by decide +kernel
theorem dX12_findAcross_200 : decode cX12_findAcross 200 = .ok (.return_, 1) := by decide +kernel
theorem dX12_skin_0 : decode cX12_skin 0 = .ok (.aload_n 0, 1) := by decide +kernel
theorem dX12_skin_1 : decode cX12_skin 1 = .ok (.iconst 0, 1) := by decide +kernel
theorem dX12_skin_2 : decode cX12_skin 2 = .ok (.putfield 113, 3) := by decide +kernel
theorem dX12_skin_5 : decode cX12_skin 5 = .ok (.aload_n 0, 1) := by decide +kernel
theorem dX12_skin_6 : decode cX12_skin 6 = .ok (.invokevirtual 223, 3) := by decide +kernel
theorem dX12_skin_9 : decode cX12_skin 9 = .ok (.aload_n 0, 1) := by decide +kernel
theorem dX12_skin_10 : decode cX12_skin 10 = .ok (.getfield 195, 3) := by decide +kernel
theorem dX12_skin_13 : decode cX12_skin 13 = .ok (.ireturn, 1) := by decide +kernel
theorem dX12_square_0 : decode cX12_square 0 = .ok (.aload_n 0, 1) := by decide +kernel
theorem dX12_square_1 : decode cX12_square 1 = .ok (.iconst 0, 1) := by decide +kernel
theorem dX12_square_2 : decode cX12_square 2 = .ok (.putfield 113, 3) := by decide +kernel
theorem dX12_square_5 : decode cX12_square 5 = .ok (.aload_n 0, 1) := by decide +kernel
theorem dX12_square_6 : decode cX12_square 6 = .ok (.invokevirtual 223, 3) := by decide +kernel
theorem dX12_square_9 : decode cX12_square 9 = .ok (.iload_n 1, 1) := by decide +kernel
theorem dX12_square_10 : decode cX12_square 10 = .ok (.iconst 0, 1) := by decide +kernel
theorem dX12_square_11 : decode cX12_square 11 = .ok (.aload_n 0, 1) := by decide +kernel
theorem dX12_square_12 : decode cX12_square 12 = .ok (.getfield 195, 3) := by decide +kernel
theorem dX12_square_15 : decode cX12_square 15 = .ok (.iconst 1, 1) := by decide +kernel
theorem dX12_square_16 : decode cX12_square 16 = .ok (.isub, 1) := by decide +kernel
theorem dX12_square_17 : decode cX12_square 17 = .ok (.invokestatic 139, 3) := by decide +kernel
theorem dX12_square_20 : decode cX12_square 20 = .ok (.ifCond .eq 12, 3) := by decide +kernel
theorem dX12_square_23 : decode cX12_square 23 = .ok (.iload_n 2, 1) := by decide +kernel
theorem dX12_square_24 : decode cX12_square 24 = .ok (.iconst 0, 1) := by decide +kernel
theorem dX12_square_25 : decode cX12_square 25 = .ok (.iconst 3, 1) := by decide +kernel
theorem dX12_square_26 : decode cX12_square 26 = .ok (.invokestatic 139, 3) := by decide +kernel
theorem dX12_square_29 : decode cX12_square 29 = .ok (.ifCond .ne 6, 3) := by decide +kernel
theorem dX12_square_32 : decode cX12_square 32 = .ok (.bipush (-3), 2) := by decide +kernel
theorem dX12_square_34 : decode cX12_square 34 = .ok (.ireturn, 1) := by decide +kernel
theorem dX12_square_35 : decode cX12_square 35 = .ok (.aload_n 0, 1) := by decide +kernel
theorem dX12_square_36 : decode cX12_square 36 = .ok (.getfield 46, 3) := by decide +kernel
theorem dX12_square_39 : decode cX12_square 39 = .ok (.iload_n 1, 1) := by decide +kernel
theorem dX12_square_40 : decode cX12_square 40 = .ok (.iaload, 1) := by decide +kernel
theorem dX12_square_41 : decode cX12_square 41 = .ok (.istore_n 3, 1) := by decide +kernel
theorem dX12_square_42 : decode cX12_square 42 = .ok (.iload_n 2, 1) := by decide +kernel
theorem dX12_square_43 : decode cX12_square 43 = .ok (.ifCond .ne 10, 3) := by decide +kernel
theorem dX12_square_46 : decode cX12_square 46 = .ok (.iload_n 3, 1) := by decide +kernel
theorem dX12_square_47 : decode cX12_square 47 = .ok (.invokestatic 186, 3) := by decide +kernel
theorem dX12_square_50 : decode cX12_square 50 = .ok (.goto 33, 3) := by decide +kernel
theorem dX12_square_53 : decode cX12_square 53 = .ok (.iload_n 2, 1) := by decide +kernel
theorem dX12_square_54 : decode cX12_square 54 = .ok (.iconst 1, 1) := by decide +kernel
theorem dX12_square_55 : decode cX12_square 55 = .ok (.if_icmp .ne 10, 3) := by decide +kernel
theorem dX12_square_58 : decode cX12_square 58 = .ok (.iload_n 3, 1) := by decide +kernel
theorem dX12_square_59 : decode cX12_square 59 = .ok (.invokestatic 189, 3) := by decide +kernel
theorem dX12_square_62 : decode cX12_square 62 = .ok (.goto 21, 3) := by decide +kernel
theorem dX12_square_65 : decode cX12_square 65 = .ok (.iload_n 2, 1) := by decide +kernel
theorem dX12_square_66 : decode cX12_square 66 = .ok (.iconst 2, 1) := by decide +kernel
theorem dX12_square_67 : decode cX12_square 67 = .ok (.if_icmp .ne 10, 3) := by decide +kernel
theorem dX12_square_70 : decode cX12_square 70 = .ok (.iload_n 3, 1) := by decide +kernel
theorem dX12_square_71 : decode cX12_square 71 = .ok (.invokestatic 192, 3) := by decide +kernel
theorem dX12_square_74 : decode cX12_square 74 = .ok (.goto 9, 3) := by decide +kernel
theorem dX12_square_77 : decode cX12_square 77 = .ok (.aload_n 0, 1) := by decide +kernel
theorem dX12_square_78 : decode cX12_square 78 = .ok (.getfield 49, 3) := by decide +kernel
theorem dX12_square_81 : decode cX12_square 81 = .ok (.iload_n 1, 1) := by decide +kernel
theorem dX12_square_82 : decode cX12_square 82 = .ok (.iaload, 1) := by decide +kernel
theorem dX12_square_83 : decode cX12_square 83 = .ok (.ireturn, 1) := by decide +kernel
theorem dX12_across_0 : decode cX12_across 0 = .ok (.aload_n 0, 1) := by decide +kernel
theorem dX12_across_1 : decode cX12_across 1 = .ok (.iconst 0, 1) := by decide +kernel
theorem dX12_across_2 : decode cX12_across 2 = .ok (.putfield 113, 3) := by decide +kernel
theorem dX12_across_5 : decode cX12_across 5 = .ok (.aload_n 0, 1) := by decide +kernel
theorem dX12_across_6 : decode cX12_across 6 = .ok (.invokevirtual 223, 3) := by decide +kernel
theorem dX12_across_9 : decode cX12_across 9 = .ok (.iload_n 1, 1) := by decide +kernel
theorem dX12_across_10 : decode cX12_across 10 = .ok (.iconst 0, 1) := by decide +kernel
theorem dX12_across_11 : decode cX12_across 11 = .ok (.aload_n 0, 1) := by decide +kernel
theorem dX12_across_12 : decode cX12_across 12 = .ok (.getfield 195, 3) := by decide +kernel
theorem dX12_across_15 : decode cX12_across 15 = .ok (.iconst 1, 1) := by decide +kernel
theorem dX12_across_16 : decode cX12_across 16 = .ok (.isub, 1) := by decide +kernel
theorem dX12_across_17 : decode cX12_across 17 = .ok (.invokestatic 139, 3) := by decide +kernel
theorem dX12_across_20 : decode cX12_across 20 = .ok (.ifCond .eq 21, 3) := by decide +kernel
theorem dX12_across_23 : decode cX12_across 23 = .ok (.iload_n 2, 1) := by decide +kernel
theorem dX12_across_24 : decode cX12_across 24 = .ok (.iconst 0, 1) := by decide +kernel
theorem dX12_across_25 : decode cX12_across 25 = .ok (.iconst 3, 1) := by decide +kernel
theorem dX12_across_26 : decode cX12_across 26 = .ok (.invokestatic 139, 3) := by decide +kernel
theorem dX12_across_29 : decode cX12_across 29 = .ok (.ifCond .eq 12, 3) := by decide +kernel
theorem dX12_across_32 : decode cX12_across 32 = .ok (.iload_n 3, 1) := by decide +kernel
theorem dX12_across_33 : decode cX12_across 33 = .ok (.iconst 0, 1) := by decide +kernel
theorem dX12_across_34 : decode cX12_across 34 = .ok (.iconst 3, 1) := by decide +kernel
theorem dX12_across_35 : decode cX12_across 35 = .ok (.invokestatic 139, 3) := by decide +kernel
theorem dX12_across_38 : decode cX12_across 38 = .ok (.ifCond .ne 6, 3) := by decide +kernel
theorem dX12_across_41 : decode cX12_across 41 = .ok (.bipush (-3), 2) := by decide +kernel
theorem dX12_across_43 : decode cX12_across 43 = .ok (.ireturn, 1) := by decide +kernel
theorem dX12_across_44 : decode cX12_across 44 = .ok (.aload_n 0, 1) := by decide +kernel
theorem dX12_across_45 : decode cX12_across 45 = .ok (.invokevirtual 182, 3) := by decide +kernel
theorem dX12_across_48 : decode cX12_across 48 = .ok (.ifCond .eq 6, 3) := by decide +kernel
theorem dX12_across_51 : decode cX12_across 51 = .ok (.bipush (-4), 2) := by decide +kernel
theorem dX12_across_53 : decode cX12_across 53 = .ok (.ireturn, 1) := by decide +kernel
theorem dX12_across_54 : decode cX12_across 54 = .ok (.aload_n 0, 1) := by decide +kernel
theorem dX12_across_55 : decode cX12_across 55 = .ok (.iload_n 1, 1) := by decide +kernel
theorem dX12_across_56 : decode cX12_across 56 = .ok (.iload_n 2, 1) := by decide +kernel
theorem dX12_across_57 : decode cX12_across 57 = .ok (.invokevirtual 226, 3) := by decide +kernel
theorem dX12_across_60 : decode cX12_across 60 = .ok (.iload_n 3, 1) := by decide +kernel
theorem dX12_across_61 : decode cX12_across 61 = .ok (.ifCond .ne 10, 3) := by decide +kernel
theorem dX12_across_64 : decode cX12_across 64 = .ok (.aload_n 0, 1) := by decide +kernel
theorem dX12_across_65 : decode cX12_across 65 = .ok (.getfield 213, 3) := by decide +kernel
theorem dX12_across_68 : decode cX12_across 68 = .ok (.goto 50, 3) := by decide +kernel
theorem dX12_across_71 : decode cX12_across 71 = .ok (.iload_n 3, 1) := by decide +kernel
theorem dX12_across_72 : decode cX12_across 72 = .ok (.iconst 1, 1) := by decide +kernel
theorem dX12_across_73 : decode cX12_across 73 = .ok (.if_icmp .ne 10, 3) := by decide +kernel
theorem dX12_across_76 : decode cX12_across 76 = .ok (.aload_n 0, 1) := by decide +kernel
theorem dX12_across_77 : decode cX12_across 77 = .ok (.getfield 220, 3) := by decide +kernel
theorem dX12_across_80 : decode cX12_across 80 = .ok (.goto 38, 3) := by decide +kernel
theorem dX12_across_83 : decode cX12_across 83 = .ok (.iload_n 3, 1) := by decide +kernel
theorem dX12_across_84 : decode cX12_across 84 = .ok (.iconst 2, 1) := by decide +kernel
theorem dX12_across_85 : decode cX12_across 85 = .ok (.if_icmp .ne 23, 3) := by decide +kernel
theorem dX12_across_88 : decode cX12_across 88 = .ok (.aload_n 0, 1) := by decide +kernel
theorem dX12_across_89 : decode cX12_across 89 = .ok (.getfield 204, 3) := by decide +kernel
theorem dX12_across_92 : decode cX12_across 92 = .ok (.iconst (-1), 1) := by decide +kernel
theorem dX12_across_93 : decode cX12_across 93 = .ok (.if_icmp .ne 8, 3) := by decide +kernel
theorem dX12_across_96 : decode cX12_across 96 = .ok (.bipush 9, 2) := by decide +kernel
theorem dX12_across_98 : decode cX12_across 98 = .ok (.goto 20, 3) := by decide +kernel
theorem dX12_across_101 : decode cX12_across 101 = .ok (.aload_n 0, 1) := by decide +kernel
theorem dX12_across_102 : decode cX12_across 102 = .ok (.getfield 204, 3) := by decide +kernel
theorem dX12_across_105 : decode cX12_across 105 = .ok (.goto 13, 3) := by decide +kernel
theorem dX12_across_108 : decode cX12_across 108 = .ok (.aload_n 0, 1) := by decide +kernel
theorem dX12_across_109 : decode cX12_across 109 = .ok (.getfield 16, 3) := by decide +kernel
theorem dX12_across_112 : decode cX12_across 112 = .ok (.iconst 4, 1) := by decide +kernel
theorem dX12_across_113 : decode cX12_across 113 = .ok (.iload_n 1, 1) := by decide +kernel
theorem dX12_across_114 : decode cX12_across 114 = .ok (.imul, 1) := by decide +kernel
theorem dX12_across_115 : decode cX12_across 115 = .ok (.iload_n 2, 1) := by decide +kernel
theorem dX12_across_116 : decode cX12_across 116 = .ok (.iadd, 1) := by decide +kernel
theorem dX12_across_117 : decode cX12_across 117 = .ok (.iaload, 1) := by decide +kernel
theorem dX12_across_118 : decode cX12_across 118 = .ok (.ireturn, 1) := by decide +kernel
theorem dX12_cut_0 : decode cX12_cut 0 = .ok (.aload_n 0, 1) := by decide +kernel
theorem dX12_cut_1 : decode cX12_cut 1 = .ok (.iconst 0, 1) := by decide +kernel
theorem dX12_cut_2 : decode cX12_cut 2 = .ok (.putfield 113, 3) := by decide +kernel
theorem dX12_cut_5 : decode cX12_cut 5 = .ok (.aload_n 0, 1) := by decide +kernel
theorem dX12_cut_6 : decode cX12_cut 6 = .ok (.invokevirtual 223, 3) := by decide +kernel
theorem dX12_cut_9 : decode cX12_cut 9 = .ok (.iload_n 1, 1) := by decide +kernel
theorem dX12_cut_10 : decode cX12_cut 10 = .ok (.iconst 0, 1) := by decide +kernel
theorem dX12_cut_11 : decode cX12_cut 11 = .ok (.aload_n 0, 1) := by decide +kernel
theorem dX12_cut_12 : decode cX12_cut 12 = .ok (.getfield 195, 3) := by decide +kernel
theorem dX12_cut_15 : decode cX12_cut 15 = .ok (.iconst 1, 1) := by decide +kernel
theorem dX12_cut_16 : decode cX12_cut 16 = .ok (.isub, 1) := by decide +kernel
theorem dX12_cut_17 : decode cX12_cut 17 = .ok (.invokestatic 139, 3) := by decide +kernel
theorem dX12_cut_20 : decode cX12_cut 20 = .ok (.ifCond .eq 21, 3) := by decide +kernel
theorem dX12_cut_23 : decode cX12_cut 23 = .ok (.iload_n 2, 1) := by decide +kernel
theorem dX12_cut_24 : decode cX12_cut 24 = .ok (.iconst 0, 1) := by decide +kernel
theorem dX12_cut_25 : decode cX12_cut 25 = .ok (.iconst 3, 1) := by decide +kernel
theorem dX12_cut_26 : decode cX12_cut 26 = .ok (.invokestatic 139, 3) := by decide +kernel
theorem dX12_cut_29 : decode cX12_cut 29 = .ok (.ifCond .eq 12, 3) := by decide +kernel
theorem dX12_cut_32 : decode cX12_cut 32 = .ok (.iload_n 3, 1) := by decide +kernel
theorem dX12_cut_33 : decode cX12_cut 33 = .ok (.iconst 0, 1) := by decide +kernel
theorem dX12_cut_34 : decode cX12_cut 34 = .ok (.iconst 1, 1) := by decide +kernel
theorem dX12_cut_35 : decode cX12_cut 35 = .ok (.invokestatic 139, 3) := by decide +kernel
theorem dX12_cut_38 : decode cX12_cut 38 = .ok (.ifCond .ne 6, 3) := by decide +kernel
theorem dX12_cut_41 : decode cX12_cut 41 = .ok (.bipush (-3), 2) := by decide +kernel
theorem dX12_cut_43 : decode cX12_cut 43 = .ok (.ireturn, 1) := by decide +kernel
theorem dX12_cut_44 : decode cX12_cut 44 = .ok (.aload_n 0, 1) := by decide +kernel
theorem dX12_cut_45 : decode cX12_cut 45 = .ok (.invokevirtual 182, 3) := by decide +kernel
theorem dX12_cut_48 : decode cX12_cut 48 = .ok (.ifCond .eq 6, 3) := by decide +kernel
theorem dX12_cut_51 : decode cX12_cut 51 = .ok (.bipush (-4), 2) := by decide +kernel
theorem dX12_cut_53 : decode cX12_cut 53 = .ok (.ireturn, 1) := by decide +kernel
theorem dX12_cut_54 : decode cX12_cut 54 = .ok (.aload_n 0, 1) := by decide +kernel
theorem dX12_cut_55 : decode cX12_cut 55 = .ok (.invokevirtual 136, 3) := by decide +kernel
theorem dX12_cut_58 : decode cX12_cut 58 = .ok (.aload_n 0, 1) := by decide +kernel
theorem dX12_cut_59 : decode cX12_cut 59 = .ok (.getfield 16, 3) := by decide +kernel
theorem dX12_cut_62 : decode cX12_cut 62 = .ok (.iconst 4, 1) := by decide +kernel
theorem dX12_cut_63 : decode cX12_cut 63 = .ok (.iload_n 1, 1) := by decide +kernel
theorem dX12_cut_64 : decode cX12_cut 64 = .ok (.imul, 1) := by decide +kernel
theorem dX12_cut_65 : decode cX12_cut 65 = .ok (.iload_n 2, 1) := by decide +kernel
theorem dX12_cut_66 : decode cX12_cut 66 = .ok (.iadd, 1) := by decide +kernel
theorem dX12_cut_67 : decode cX12_cut 67 = .ok (.iaload, 1) := by decide +kernel
theorem dX12_cut_68 : decode cX12_cut 68 = .ok (.istore 4, 2) := by decide +kernel
theorem dX12_cut_70 : decode cX12_cut 70 = .ok (.aload_n 0, 1) := by decide +kernel
theorem dX12_cut_71 : decode cX12_cut 71 = .ok (.iload_n 1, 1) := by decide +kernel
theorem dX12_cut_72 : decode cX12_cut 72 = .ok (.iload_n 2, 1) := by decide +kernel
theorem dX12_cut_73 : decode cX12_cut 73 = .ok (.invokevirtual 226, 3) := by decide +kernel
theorem dX12_cut_76 : decode cX12_cut 76 = .ok (.aload_n 0, 1) := by decide +kernel
theorem dX12_cut_77 : decode cX12_cut 77 = .ok (.getfield 16, 3) := by decide +kernel
theorem dX12_cut_80 : decode cX12_cut 80 = .ok (.iconst 4, 1) := by decide +kernel
theorem dX12_cut_81 : decode cX12_cut 81 = .ok (.iload_n 1, 1) := by decide +kernel
theorem dX12_cut_82 : decode cX12_cut 82 = .ok (.imul, 1) := by decide +kernel
theorem dX12_cut_83 : decode cX12_cut 83 = .ok (.iload_n 2, 1) := by decide +kernel
theorem dX12_cut_84 : decode cX12_cut 84 = .ok (.iadd, 1) := by decide +kernel
theorem dX12_cut_85 : decode cX12_cut 85 = .ok (.iload_n 3, 1) := by decide +kernel
theorem dX12_cut_86 : decode cX12_cut 86 = .ok (.iastore, 1) := by decide +kernel
theorem dX12_cut_87 : decode cX12_cut 87 = .ok (.aload_n 0, 1) := by decide +kernel
theorem dX12_cut_88 : decode cX12_cut 88 = .ok (.getfield 16, 3) := by decide +kernel
theorem dX12_cut_91 : decode cX12_cut 91 = .ok (.iconst 4, 1) := by decide +kernel
theorem dX12_cut_92 : decode cX12_cut 92 = .ok (.aload_n 0, 1) := by decide +kernel
theorem dX12_cut_93 : decode cX12_cut 93 = .ok (.getfield 213, 3) := by decide +kernel
theorem dX12_cut_96 : decode cX12_cut 96 = .ok (.imul, 1) := by decide +kernel
theorem dX12_cut_97 : decode cX12_cut 97 = .ok (.aload_n 0, 1) := by decide +kernel
theorem dX12_cut_98 : decode cX12_cut 98 = .ok (.getfield 220, 3) := by decide +kernel
theorem dX12_cut_101 : decode cX12_cut 101 = .ok (.iadd, 1) := by decide +kernel
theorem dX12_cut_102 : decode cX12_cut 102 = .ok (.iload_n 3, 1) := by decide +kernel
theorem dX12_cut_103 : decode cX12_cut 103 = .ok (.iastore, 1) := by decide +kernel
theorem dX12_cut_104 : decode cX12_cut 104 = .ok (.iload 4, 2) := by decide +kernel
theorem dX12_cut_106 : decode cX12_cut 106 = .ok (.ireturn, 1) := by decide +kernel
theorem dX12_cuts_0 : decode cX12_cuts 0 = .ok (.aload_n 0, 1) := by decide +kernel
theorem dX12_cuts_1 : decode cX12_cuts 1 = .ok (.iconst 0, 1) := by decide +kernel
theorem dX12_cuts_2 : decode cX12_cuts 2 = .ok (.putfield 113, 3) := by decide +kernel
theorem dX12_cuts_5 : decode cX12_cuts 5 = .ok (.iconst 0, 1) := by decide +kernel
theorem dX12_cuts_6 : decode cX12_cuts 6 = .ok (.istore_n 1, 1) := by decide +kernel
theorem dX12_cuts_7 : decode cX12_cuts 7 = .ok (.iconst 0, 1) := by decide +kernel
theorem dX12_cuts_8 : decode cX12_cuts 8 = .ok (.istore_n 2, 1) := by decide +kernel
theorem dX12_cuts_9 : decode cX12_cuts 9 = .ok (.iload_n 2, 1) := by decide +kernel
theorem dX12_cuts_10 : decode cX12_cuts 10 = .ok (.sipush 1536, 3) := by decide +kernel
theorem dX12_cuts_13 : decode cX12_cuts 13 = .ok (.if_icmp .ge 18, 3) := by decide +kernel
theorem dX12_cuts_16 : decode cX12_cuts 16 = .ok (.iload_n 1, 1) := by decide +kernel
theorem dX12_cuts_17 : decode cX12_cuts 17 = .ok (.aload_n 0, 1) := by decide +kernel
theorem dX12_cuts_18 : decode cX12_cuts 18 = .ok (.getfield 16, 3) := by decide +kernel
theorem dX12_cuts_21 : decode cX12_cuts 21 = .ok (.iload_n 2, 1) := by decide +kernel
theorem dX12_cuts_22 : decode cX12_cuts 22 = .ok (.iaload, 1) := by decide +kernel
theorem dX12_cuts_23 : decode cX12_cuts 23 = .ok (.iadd, 1) := by decide +kernel
theorem dX12_cuts_24 : decode cX12_cuts 24 = .ok (.istore_n 1, 1) := by decide +kernel
theorem dX12_cuts_25 : decode cX12_cuts 25 = .ok (.iinc 2 1, 3) := by decide +kernel
theorem dX12_cuts_28 : decode cX12_cuts 28 = .ok (.goto (-19), 3) := by decide +kernel
theorem dX12_cuts_31 : decode cX12_cuts 31 = .ok (.iload_n 1, 1) := by decide +kernel
theorem dX12_cuts_32 : decode cX12_cuts 32 = .ok (.iconst 2, 1) := by decide +kernel
theorem dX12_cuts_33 : decode cX12_cuts 33 = .ok (.idiv, 1) := by decide +kernel
theorem dX12_cuts_34 : decode cX12_cuts 34 = .ok (.ireturn, 1) := by decide +kernel
theorem dX12_stepX_0 : decode cX12_stepX 0 = .ok (.iload_n 0, 1) := by decide +kernel
theorem dX12_stepX_1 : decode cX12_stepX 1 = .ok (.ifCond .ne 7, 3) := by decide +kernel
theorem dX12_stepX_4 : decode cX12_stepX 4 = .ok (.iconst 1, 1) := by decide +kernel
theorem dX12_stepX_5 : decode cX12_stepX 5 = .ok (.goto 13, 3) := by decide +kernel
theorem dX12_stepX_8 : decode cX12_stepX 8 = .ok (.iload_n 0, 1) := by decide +kernel
theorem dX12_stepX_9 : decode cX12_stepX 9 = .ok (.iconst 2, 1) := by decide +kernel
theorem dX12_stepX_10 : decode cX12_stepX 10 = .ok (.if_icmp .ne 7, 3) := by decide +kernel
theorem dX12_stepX_13 : decode cX12_stepX 13 = .ok (.iconst (-1), 1) := by decide +kernel
theorem dX12_stepX_14 : decode cX12_stepX 14 = .ok (.goto 4, 3) := by decide +kernel
theorem dX12_stepX_17 : decode cX12_stepX 17 = .ok (.iconst 0, 1) := by decide +kernel
theorem dX12_stepX_18 : decode cX12_stepX 18 = .ok (.ireturn, 1) := by decide +kernel
theorem dX12_stepY_0 : decode cX12_stepY 0 = .ok (.iload_n 0, 1) := by decide +kernel
theorem dX12_stepY_1 : decode cX12_stepY 1 = .ok (.iconst 1, 1) := by decide +kernel
theorem dX12_stepY_2 : decode cX12_stepY 2 = .ok (.if_icmp .ne 7, 3) := by decide +kernel
theorem dX12_stepY_5 : decode cX12_stepY 5 = .ok (.iconst 1, 1) := by decide +kernel
theorem dX12_stepY_6 : decode cX12_stepY 6 = .ok (.goto 13, 3) := by decide +kernel
theorem dX12_stepY_9 : decode cX12_stepY 9 = .ok (.iload_n 0, 1) := by decide +kernel
theorem dX12_stepY_10 : decode cX12_stepY 10 = .ok (.iconst 3, 1) := by decide +kernel
theorem dX12_stepY_11 : decode cX12_stepY 11 = .ok (.if_icmp .ne 7, 3) := by decide +kernel
theorem dX12_stepY_14 : decode cX12_stepY 14 = .ok (.iconst (-1), 1) := by decide +kernel
theorem dX12_stepY_15 : decode cX12_stepY 15 = .ok (.goto 4, 3) := by decide +kernel
theorem dX12_stepY_18 : decode cX12_stepY 18 = .ok (.iconst 0, 1) := by decide +kernel
theorem dX12_stepY_19 : decode cX12_stepY 19 = .ok (.ireturn, 1) := by decide +kernel
theorem dX12_layAcross_0 : decode cX12_layAcross 0 = .ok (.aload_n 0, 1) := by decide +kernel
theorem dX12_layAcross_1 : decode cX12_layAcross 1 = .ok (.iload_n 1, 1) := by decide +kernel
theorem dX12_layAcross_2 : decode cX12_layAcross 2 = .ok (.iload_n 2, 1) := by decide +kernel
theorem dX12_layAcross_3 : decode cX12_layAcross 3 = .ok (.invokevirtual 226, 3) := by decide +kernel
theorem dX12_layAcross_6 : decode cX12_layAcross 6 = .ok (.iload_n 2, 1) := by decide +kernel
theorem dX12_layAcross_7 : decode cX12_layAcross 7 = .ok (.aload_n 0, 1) := by decide +kernel
theorem dX12_layAcross_8 : decode cX12_layAcross 8 = .ok (.getfield 64, 3) := by decide +kernel
theorem dX12_layAcross_11 : decode cX12_layAcross 11 = .ok (.iload_n 1, 1) := by decide +kernel
theorem dX12_layAcross_12 : decode cX12_layAcross 12 = .ok (.iaload, 1) := by decide +kernel
theorem dX12_layAcross_13 : decode cX12_layAcross 13 = .ok (.iadd, 1) := by decide +kernel
theorem dX12_layAcross_14 : decode cX12_layAcross 14 = .ok (.iconst 4, 1) := by decide +kernel
theorem dX12_layAcross_15 : decode cX12_layAcross 15 = .ok (.irem, 1) := by decide +kernel
theorem dX12_layAcross_16 : decode cX12_layAcross 16 = .ok (.istore_n 3, 1) := by decide +kernel
theorem dX12_layAcross_17 : decode cX12_layAcross 17 = .ok (.aload_n 0, 1) := by decide +kernel
theorem dX12_layAcross_18 : decode cX12_layAcross 18 = .ok (.getfield 58, 3) := by decide +kernel
theorem dX12_layAcross_21 : decode cX12_layAcross 21 = .ok (.iload_n 1, 1) := by decide +kernel
theorem dX12_layAcross_22 : decode cX12_layAcross 22 = .ok (.iaload, 1) := by decide +kernel
theorem dX12_layAcross_23 : decode cX12_layAcross 23 = .ok (.iload_n 3, 1) := by decide +kernel
theorem dX12_layAcross_24 : decode cX12_layAcross 24 = .ok (.invokestatic 230, 3) := by decide +kernel
theorem dX12_layAcross_27 : decode cX12_layAcross 27 = .ok (.iadd, 1) := by decide +kernel
theorem dX12_layAcross_28 : decode cX12_layAcross 28 = .ok (.istore 4, 2) := by decide +kernel
theorem dX12_layAcross_30 : decode cX12_layAcross 30 = .ok (.aload_n 0, 1) := by decide +kernel
theorem dX12_layAcross_31 : decode cX12_layAcross 31 = .ok (.getfield 61, 3) := by decide +kernel
theorem dX12_layAcross_34 : decode cX12_layAcross 34 = .ok (.iload_n 1, 1) := by decide +kernel
theorem dX12_layAcross_35 : decode cX12_layAcross 35 = .ok (.iaload, 1) := by decide +kernel
theorem dX12_layAcross_36 : decode cX12_layAcross 36 = .ok (.iload_n 3, 1) := by decide +kernel
theorem dX12_layAcross_37 : decode cX12_layAcross 37 = .ok (.invokestatic 233, 3) := by decide +kernel
theorem dX12_layAcross_40 : decode cX12_layAcross 40 = .ok (.iadd, 1) := by decide +kernel
theorem dX12_layAcross_41 : decode cX12_layAcross 41 = .ok (.istore 5, 2) := by decide +kernel
theorem dX12_layAcross_43 : decode cX12_layAcross 43 = .ok (.iload_n 3, 1) := by decide +kernel
theorem dX12_layAcross_44 : decode cX12_layAcross 44 = .ok (.iconst 2, 1) := by decide +kernel
theorem dX12_layAcross_45 : decode cX12_layAcross 45 = .ok (.iadd, 1) := by decide +kernel
theorem dX12_layAcross_46 : decode cX12_layAcross 46 = .ok (.aload_n 0, 1) := by decide +kernel
theorem dX12_layAcross_47 : decode cX12_layAcross 47 = .ok (.getfield 220, 3) := by decide +kernel
theorem dX12_layAcross_50 : decode cX12_layAcross 50 = .ok (.isub, 1) := by decide +kernel
theorem dX12_layAcross_51 : decode cX12_layAcross 51 = .ok (.iconst 4, 1) := by decide +kernel
theorem dX12_layAcross_52 : decode cX12_layAcross 52 = .ok (.iadd, 1) := by decide +kernel
theorem dX12_layAcross_53 : decode cX12_layAcross 53 = .ok (.iconst 4, 1) := by decide +kernel
theorem dX12_layAcross_54 : decode cX12_layAcross 54 = .ok (.irem, 1) := by decide +kernel
theorem dX12_layAcross_55 : decode cX12_layAcross 55 = .ok (.istore 6, 2) := by decide +kernel
theorem dX12_layAcross_57 : decode cX12_layAcross 57 = .ok (.aload_n 0, 1) := by decide +kernel
theorem dX12_layAcross_58 : decode cX12_layAcross 58 = .ok (.getfield 213, 3) := by decide +kernel
theorem dX12_layAcross_61 : decode cX12_layAcross 61 = .ok (.istore 7, 2) := by decide +kernel
theorem dX12_layAcross_63 : decode cX12_layAcross 63 = .ok (.aload_n 0, 1) := by decide +kernel
theorem dX12_layAcross_64 : decode cX12_layAcross 64 = .ok (.getfield 55, 3) := by decide +kernel
theorem dX12_layAcross_67 : decode cX12_layAcross 67 = .ok (.iload 7, 2) := by decide +kernel
theorem dX12_layAcross_69 : decode cX12_layAcross 69 = .ok (.iaload, 1) := by decide +kernel
theorem dX12_layAcross_70 : decode cX12_layAcross 70 = .ok (.iconst 1, 1) := by decide +kernel
theorem dX12_layAcross_71 : decode cX12_layAcross 71 = .ok (.if_icmp .ne 45, 3) := by decide +kernel
theorem dX12_layAcross_74 : decode cX12_layAcross 74 = .ok (.aload_n 0, 1) := by decide +kernel
theorem dX12_layAcross_75 : decode cX12_layAcross 75 = .ok (.getfield 58, 3) := by decide +kernel
theorem dX12_layAcross_78 : decode cX12_layAcross 78 = .ok (.iload 7, 2) := by decide +kernel
theorem dX12_layAcross_80 : decode cX12_layAcross 80 = .ok (.iaload, 1) := by decide +kernel
theorem dX12_layAcross_81 : decode cX12_layAcross 81 = .ok (.iload 4, 2) := by decide +kernel
theorem dX12_layAcross_83 : decode cX12_layAcross 83 = .ok (.if_icmp .ne 27, 3) := by decide +kernel
theorem dX12_layAcross_86 : decode cX12_layAcross 86 = .ok (.aload_n 0, 1) := by decide +kernel
theorem dX12_layAcross_87 : decode cX12_layAcross 87 = .ok (.getfield 61, 3) := by decide +kernel
theorem dX12_layAcross_90 : decode cX12_layAcross 90 = .ok (.iload 7, 2) := by decide +kernel
theorem dX12_layAcross_92 : decode cX12_layAcross 92 = .ok (.iaload, 1) := by decide +kernel
theorem dX12_layAcross_93 : decode cX12_layAcross 93 = .ok (.iload 5, 2) := by decide +kernel
theorem dX12_layAcross_95 : decode cX12_layAcross 95 = .ok (.if_icmp .ne 15, 3) := by decide +kernel
theorem dX12_layAcross_98 : decode cX12_layAcross 98 = .ok (.aload_n 0, 1) := by decide +kernel
theorem dX12_layAcross_99 : decode cX12_layAcross 99 = .ok (.getfield 64, 3) := by decide +kernel
theorem dX12_layAcross_102 : decode cX12_layAcross 102 = .ok (.iload 7, 2) := by decide +kernel
theorem dX12_layAcross_104 : decode cX12_layAcross 104 = .ok (.iaload, 1) := by decide +kernel
theorem dX12_layAcross_105 : decode cX12_layAcross 105 = .ok (.iload 6, 2) := by decide +kernel
theorem dX12_layAcross_107 : decode cX12_layAcross 107 = .ok (.if_icmp .eq 7, 3) := by decide +kernel
theorem dX12_layAcross_110 : decode cX12_layAcross 110 = .ok (.iconst 2, 1) := by decide +kernel
theorem dX12_layAcross_111 : decode cX12_layAcross 111 = .ok (.goto 4, 3) := by decide +kernel
theorem dX12_layAcross_114 : decode cX12_layAcross 114 = .ok (.iconst 0, 1) := by decide +kernel
theorem dX12_layAcross_115 : decode cX12_layAcross 115 = .ok (.ireturn, 1) := by decide +kernel
theorem dX12_layAcross_116 : decode cX12_layAcross 116 = .ok (.aload_n 0, 1) := by decide +kernel
theorem dX12_layAcross_117 : decode cX12_layAcross 117 = .ok (.getfield 55, 3) := by decide +kernel
theorem dX12_layAcross_120 : decode cX12_layAcross 120 = .ok (.iload 7, 2) := by decide +kernel
theorem dX12_layAcross_122 : decode cX12_layAcross 122 = .ok (.iconst 1, 1) := by decide +kernel
theorem dX12_layAcross_123 : decode cX12_layAcross 123 = .ok (.iastore, 1) := by decide +kernel
theorem dX12_layAcross_124 : decode cX12_layAcross 124 = .ok (.aload_n 0, 1) := by decide +kernel
theorem dX12_layAcross_125 : decode cX12_layAcross 125 = .ok (.getfield 58, 3) := by decide +kernel
theorem dX12_layAcross_128 : decode cX12_layAcross 128 = .ok (.iload 7, 2) := by decide +kernel
theorem dX12_layAcross_130 : decode cX12_layAcross 130 = .ok (.iload 4, 2) := by decide +kernel
theorem dX12_layAcross_132 : decode cX12_layAcross 132 = .ok (.iastore, 1) := by decide +kernel
theorem dX12_layAcross_133 : decode cX12_layAcross 133 = .ok (.aload_n 0, 1) := by decide +kernel
theorem dX12_layAcross_134 : decode cX12_layAcross 134 = .ok (.getfield 61, 3) := by decide +kernel
theorem dX12_layAcross_137 : decode cX12_layAcross 137 = .ok (.iload 7, 2) := by decide +kernel
theorem dX12_layAcross_139 : decode cX12_layAcross 139 = .ok (.iload 5, 2) := by decide +kernel
theorem dX12_layAcross_141 : decode cX12_layAcross 141 = .ok (.iastore, 1) := by decide +kernel
theorem dX12_layAcross_142 : decode cX12_layAcross 142 = .ok (.aload_n 0, 1) := by decide +kernel
theorem dX12_layAcross_143 : decode cX12_layAcross 143 = .ok (.getfield 64, 3) := by decide +kernel
theorem dX12_layAcross_146 : decode cX12_layAcross 146 = .ok (.iload 7, 2) := by decide +kernel
theorem dX12_layAcross_148 : decode cX12_layAcross 148 = .ok (.iload 6, 2) := by decide +kernel
theorem dX12_layAcross_150 : decode cX12_layAcross 150 = .ok (.iastore, 1) := by decide +kernel
theorem dX12_layAcross_151 : decode cX12_layAcross 151 = .ok (.iconst 1, 1) := by decide +kernel
theorem dX12_layAcross_152 : decode cX12_layAcross 152 = .ok (.ireturn, 1) := by decide +kernel
theorem dX12_lay_0 : decode cX12_lay 0 = .ok (.iconst 0, 1) := by decide +kernel
theorem dX12_lay_1 : decode cX12_lay 1 = .ok (.istore_n 1, 1) := by decide +kernel
theorem dX12_lay_2 : decode cX12_lay 2 = .ok (.iload_n 1, 1) := by decide +kernel
theorem dX12_lay_3 : decode cX12_lay 3 = .ok (.aload_n 0, 1) := by decide +kernel
theorem dX12_lay_4 : decode cX12_lay 4 = .ok (.getfield 195, 3) := by decide +kernel
theorem dX12_lay_7 : decode cX12_lay 7 = .ok (.if_icmp .ge 16, 3) := by decide +kernel
theorem dX12_lay_10 : decode cX12_lay 10 = .ok (.aload_n 0, 1) := by decide +kernel
theorem dX12_lay_11 : decode cX12_lay 11 = .ok (.getfield 55, 3) := by decide +kernel
theorem dX12_lay_14 : decode cX12_lay 14 = .ok (.iload_n 1, 1) := by decide +kernel
theorem dX12_lay_15 : decode cX12_lay 15 = .ok (.iconst 0, 1) := by decide +kernel
theorem dX12_lay_16 : decode cX12_lay 16 = .ok (.iastore, 1) := by decide +kernel
theorem dX12_lay_17 : decode cX12_lay 17 = .ok (.iinc 1 1, 3) := by decide +kernel
theorem dX12_lay_20 : decode cX12_lay 20 = .ok (.goto (-18), 3) := by decide +kernel
theorem dX12_lay_23 : decode cX12_lay 23 = .ok (.aload_n 0, 1) := by decide +kernel
theorem dX12_lay_24 : decode cX12_lay 24 = .ok (.getfield 55, 3) := by decide +kernel
theorem dX12_lay_27 : decode cX12_lay 27 = .ok (.iconst 0, 1) := by decide +kernel
theorem dX12_lay_28 : decode cX12_lay 28 = .ok (.iconst 1, 1) := by decide +kernel
theorem dX12_lay_29 : decode cX12_lay 29 = .ok (.iastore, 1) := by decide +kernel
theorem dX12_lay_30 : decode cX12_lay 30 = .ok (.aload_n 0, 1) := by decide +kernel
theorem dX12_lay_31 : decode cX12_lay 31 = .ok (.getfield 58, 3) := by decide +kernel
theorem dX12_lay_34 : decode cX12_lay 34 = .ok (.iconst 0, 1) := by decide +kernel
theorem dX12_lay_35 : decode cX12_lay 35 = .ok (.iconst 0, 1) := by decide +kernel
theorem dX12_lay_36 : decode cX12_lay 36 = .ok (.iastore, 1) := by decide +kernel
theorem dX12_lay_37 : decode cX12_lay 37 = .ok (.aload_n 0, 1) := by decide +kernel
theorem dX12_lay_38 : decode cX12_lay 38 = .ok (.getfield 61, 3) := by decide +kernel
theorem dX12_lay_41 : decode cX12_lay 41 = .ok (.iconst 0, 1) := by decide +kernel
theorem dX12_lay_42 : decode cX12_lay 42 = .ok (.iconst 0, 1) := by decide +kernel
theorem dX12_lay_43 : decode cX12_lay 43 = .ok (.iastore, 1) := by decide +kernel
theorem dX12_lay_44 : decode cX12_lay 44 = .ok (.aload_n 0, 1) := by decide +kernel
theorem dX12_lay_45 : decode cX12_lay 45 = .ok (.getfield 64, 3) := by decide +kernel
theorem dX12_lay_48 : decode cX12_lay 48 = .ok (.iconst 0, 1) := by decide +kernel
theorem dX12_lay_49 : decode cX12_lay 49 = .ok (.iconst 0, 1) := by decide +kernel
theorem dX12_lay_50 : decode cX12_lay 50 = .ok (.iastore, 1) := by decide +kernel
theorem dX12_lay_51 : decode cX12_lay 51 = .ok (.iconst 1, 1) := by decide +kernel
theorem dX12_lay_52 : decode cX12_lay 52 = .ok (.istore_n 1, 1) := by decide +kernel
theorem dX12_lay_53 : decode cX12_lay 53 = .ok (.iconst 0, 1) := by decide +kernel
theorem dX12_lay_54 : decode cX12_lay 54 = .ok (.istore_n 2, 1) := by decide +kernel
theorem dX12_lay_55 : decode cX12_lay 55 = .ok (.iconst 1, 1) := by decide +kernel
theorem dX12_lay_56 : decode cX12_lay 56 = .ok (.istore_n 3, 1) := by decide +kernel
theorem dX12_lay_57 : decode cX12_lay 57 = .ok (.iload_n 3, 1) := by decide +kernel
theorem dX12_lay_58 : decode cX12_lay 58 = .ok (.ifCond .eq 111, 3) := by decide +kernel
theorem dX12_lay_61 : decode cX12_lay 61 = .ok (.iconst 0, 1) := by decide +kernel
theorem dX12_lay_62 : decode cX12_lay 62 = .ok (.istore_n 3, 1) := by decide +kernel
theorem dX12_lay_63 : decode cX12_lay 63 = .ok (.iconst 0, 1) := by decide +kernel
theorem dX12_lay_64 : decode cX12_lay 64 = .ok (.istore 4, 2) := by decide +kernel
theorem dX12_lay_66 : decode cX12_lay 66 = .ok (.iload 4, 2) := by decide +kernel
theorem dX12_lay_68 : decode cX12_lay 68 = .ok (.iconst 4, 1) := by decide +kernel
theorem dX12_lay_69 : decode cX12_lay 69 = .ok (.aload_n 0, 1) := by decide +kernel
theorem dX12_lay_70 : decode cX12_lay 70 = .ok (.getfield 195, 3) := by decide +kernel
theorem dX12_lay_73 : decode cX12_lay 73 = .ok (.imul, 1) := by decide +kernel
theorem dX12_lay_74 : decode cX12_lay 74 = .ok (.if_icmp .ge 92, 3) := by decide +kernel
theorem dX12_lay_77 : decode cX12_lay 77 = .ok (.aload_n 0, 1) := by decide +kernel
theorem dX12_lay_78 : decode cX12_lay 78 = .ok (.getfield 55, 3) := by decide +kernel
theorem dX12_lay_81 : decode cX12_lay 81 = .ok (.iload 4, 2) := by decide +kernel
theorem dX12_lay_83 : decode cX12_lay 83 = .ok (.iconst 4, 1) := by decide +kernel
theorem dX12_lay_84 : decode cX12_lay 84 = .ok (.idiv, 1) := by decide +kernel
theorem dX12_lay_85 : decode cX12_lay 85 = .ok (.iaload, 1) := by decide +kernel
theorem dX12_lay_86 : decode cX12_lay 86 = .ok (.iconst 1, 1) := by decide +kernel
theorem dX12_lay_87 : decode cX12_lay 87 = .ok (.if_icmp .ne 73, 3) := by decide +kernel
theorem dX12_lay_90 : decode cX12_lay 90 = .ok (.aload_n 0, 1) := by decide +kernel
theorem dX12_lay_91 : decode cX12_lay 91 = .ok (.getfield 16, 3) := by decide +kernel
theorem dX12_lay_94 : decode cX12_lay 94 = .ok (.iload 4, 2) := by decide +kernel
theorem dX12_lay_96 : decode cX12_lay 96 = .ok (.iaload, 1) := by decide +kernel
theorem dX12_lay_97 : decode cX12_lay 97 = .ok (.ifCond .ne 63, 3) := by decide +kernel
theorem dX12_lay_100 : decode cX12_lay 100 = .ok (.aload_n 0, 1) := by decide +kernel
theorem dX12_lay_101 : decode cX12_lay 101 = .ok (.iload 4, 2) := by decide +kernel
theorem dX12_lay_103 : decode cX12_lay 103 = .ok (.iconst 4, 1) := by decide +kernel
theorem dX12_lay_104 : decode cX12_lay 104 = .ok (.idiv, 1) := by decide +kernel
theorem dX12_lay_105 : decode cX12_lay 105 = .ok (.iload 4, 2) := by decide +kernel
theorem dX12_lay_107 : decode cX12_lay 107 = .ok (.iconst 4, 1) := by decide +kernel
theorem dX12_lay_108 : decode cX12_lay 108 = .ok (.irem, 1) := by decide +kernel
theorem dX12_lay_109 : decode cX12_lay 109 = .ok (.invokevirtual 236, 3) := by decide +kernel
theorem dX12_lay_112 : decode cX12_lay 112 = .ok (.istore 5, 2) := by decide +kernel
theorem dX12_lay_114 : decode cX12_lay 114 = .ok (.iload_n 2, 1) := by decide +kernel
theorem dX12_lay_115 : decode cX12_lay 115 = .ok (.ifCond .ne 9, 3) := by decide +kernel
theorem dX12_lay_118 : decode cX12_lay 118 = .ok (.iload 5, 2) := by decide +kernel
theorem dX12_lay_120 : decode cX12_lay 120 = .ok (.iconst 2, 1) := by decide +kernel
theorem dX12_lay_121 : decode cX12_lay 121 = .ok (.if_icmp .ne 7, 3) := by decide +kernel
theorem dX12_lay_124 : decode cX12_lay 124 = .ok (.iconst 1, 1) := by decide +kernel
theorem dX12_lay_125 : decode cX12_lay 125 = .ok (.goto 4, 3) := by decide +kernel
theorem dX12_lay_128 : decode cX12_lay 128 = .ok (.iconst 0, 1) := by decide +kernel
theorem dX12_lay_129 : decode cX12_lay 129 = .ok (.istore_n 2, 1) := by decide +kernel
theorem dX12_lay_130 : decode cX12_lay 130 = .ok (.iload_n 1, 1) := by decide +kernel
theorem dX12_lay_131 : decode cX12_lay 131 = .ok (.iload 5, 2) := by decide +kernel
theorem dX12_lay_133 : decode cX12_lay 133 = .ok (.iconst 1, 1) := by decide +kernel
theorem dX12_lay_134 : decode cX12_lay 134 = .ok (.if_icmp .ne 7, 3) := by decide +kernel
theorem dX12_lay_137 : decode cX12_lay 137 = .ok (.iconst 1, 1) := by decide +kernel
theorem dX12_lay_138 : decode cX12_lay 138 = .ok (.goto 4, 3) := by decide +kernel
theorem dX12_lay_141 : decode cX12_lay 141 = .ok (.iconst 0, 1) := by decide +kernel
theorem dX12_lay_142 : decode cX12_lay 142 = .ok (.iadd, 1) := by decide +kernel
theorem dX12_lay_143 : decode cX12_lay 143 = .ok (.istore_n 1, 1) := by decide +kernel
theorem dX12_lay_144 : decode cX12_lay 144 = .ok (.iload_n 3, 1) := by decide +kernel
theorem dX12_lay_145 : decode cX12_lay 145 = .ok (.ifCond .ne 9, 3) := by decide +kernel
theorem dX12_lay_148 : decode cX12_lay 148 = .ok (.iload 5, 2) := by decide +kernel
theorem dX12_lay_150 : decode cX12_lay 150 = .ok (.iconst 1, 1) := by decide +kernel
theorem dX12_lay_151 : decode cX12_lay 151 = .ok (.if_icmp .ne 7, 3) := by decide +kernel
theorem dX12_lay_154 : decode cX12_lay 154 = .ok (.iconst 1, 1) := by decide +kernel
theorem dX12_lay_155 : decode cX12_lay 155 = .ok (.goto 4, 3) := by decide +kernel
theorem dX12_lay_158 : decode cX12_lay 158 = .ok (.iconst 0, 1) := by decide +kernel
theorem dX12_lay_159 : decode cX12_lay 159 = .ok (.istore_n 3, 1) := by decide +kernel
theorem dX12_lay_160 : decode cX12_lay 160 = .ok (.iinc 4 1, 3) := by decide +kernel
theorem dX12_lay_163 : decode cX12_lay 163 = .ok (.goto (-97), 3) := by decide +kernel
theorem dX12_lay_166 : decode cX12_lay 166 = .ok (.goto (-109), 3) := by decide +kernel
theorem dX12_lay_169 : decode cX12_lay 169 = .ok (.iload_n 1, 1) := by decide +kernel
theorem dX12_lay_170 : decode cX12_lay 170 = .ok (.aload_n 0, 1) := by decide +kernel
theorem dX12_lay_171 : decode cX12_lay 171 = .ok (.getfield 195, 3) := by decide +kernel
theorem dX12_lay_174 : decode cX12_lay 174 = .ok (.if_icmp .ge 5, 3) := by decide +kernel
theorem dX12_lay_177 : decode cX12_lay 177 = .ok (.iconst 1, 1) := by decide +kernel
theorem dX12_lay_178 : decode cX12_lay 178 = .ok (.ireturn, 1) := by decide +kernel
theorem dX12_lay_179 : decode cX12_lay 179 = .ok (.iload_n 2, 1) := by decide +kernel
theorem dX12_lay_180 : decode cX12_lay 180 = .ok (.ifCond .eq 5, 3) := by decide +kernel
theorem dX12_lay_183 : decode cX12_lay 183 = .ok (.iconst 2, 1) := by decide +kernel
theorem dX12_lay_184 : decode cX12_lay 184 = .ok (.ireturn, 1) := by decide +kernel
theorem dX12_lay_185 : decode cX12_lay 185 = .ok (.iconst 0, 1) := by decide +kernel
theorem dX12_lay_186 : decode cX12_lay 186 = .ok (.istore 4, 2) := by decide +kernel
theorem dX12_lay_188 : decode cX12_lay 188 = .ok (.iload 4, 2) := by decide +kernel
theorem dX12_lay_190 : decode cX12_lay 190 = .ok (.aload_n 0, 1) := by decide +kernel
theorem dX12_lay_191 : decode cX12_lay 191 = .ok (.getfield 195, 3) := by decide +kernel
theorem dX12_lay_194 : decode cX12_lay 194 = .ok (.if_icmp .ge 61, 3) := by decide +kernel
theorem dX12_lay_197 : decode cX12_lay 197 = .ok (.iconst 0, 1) := by decide +kernel
theorem dX12_lay_198 : decode cX12_lay 198 = .ok (.istore 5, 2) := by decide +kernel
theorem dX12_lay_200 : decode cX12_lay 200 = .ok (.iload 5, 2) := by decide +kernel
theorem dX12_lay_202 : decode cX12_lay 202 = .ok (.iload 4, 2) := by decide +kernel
theorem dX12_lay_204 : decode cX12_lay 204 = .ok (.if_icmp .ge 45, 3) := by decide +kernel
theorem dX12_lay_207 : decode cX12_lay 207 = .ok (.aload_n 0, 1) := by decide +kernel
theorem dX12_lay_208 : decode cX12_lay 208 = .ok (.getfield 58, 3) := by decide +kernel
theorem dX12_lay_211 : decode cX12_lay 211 = .ok (.iload 4, 2) := by decide +kernel
theorem dX12_lay_213 : decode cX12_lay 213 = .ok (.iaload, 1) := by decide +kernel
theorem dX12_lay_214 : decode cX12_lay 214 = .ok (.aload_n 0, 1) := by decide +kernel
theorem dX12_lay_215 : decode cX12_lay 215 = .ok (.getfield 58, 3) := by decide +kernel
theorem dX12_lay_218 : decode cX12_lay 218 = .ok (.iload 5, 2) := by decide +kernel
theorem dX12_lay_220 : decode cX12_lay 220 = .ok (.iaload, 1) := by decide +kernel
theorem dX12_lay_221 : decode cX12_lay 221 = .ok (.if_icmp .ne 22, 3) := by decide +kernel
theorem dX12_lay_224 : decode cX12_lay 224 = .ok (.aload_n 0, 1) := by decide +kernel
theorem dX12_lay_225 : decode cX12_lay 225 = .ok (.getfield 61, 3) := by decide +kernel
theorem dX12_lay_228 : decode cX12_lay 228 = .ok (.iload 4, 2) := by decide +kernel
theorem dX12_lay_230 : decode cX12_lay 230 = .ok (.iaload, 1) := by decide +kernel
theorem dX12_lay_231 : decode cX12_lay 231 = .ok (.aload_n 0, 1) := by decide +kernel
theorem dX12_lay_232 : decode cX12_lay 232 = .ok (.getfield 61, 3) := by decide +kernel
theorem dX12_lay_235 : decode cX12_lay 235 = .ok (.iload 5, 2) := by decide +kernel
theorem dX12_lay_237 : decode cX12_lay 237 = .ok (.iaload, 1) := by decide +kernel
theorem dX12_lay_238 : decode cX12_lay 238 = .ok (.if_icmp .ne 5, 3) := by decide +kernel
theorem dX12_lay_241 : decode cX12_lay 241 = .ok (.iconst 3, 1) := by decide +kernel
theorem dX12_lay_242 : decode cX12_lay 242 = .ok (.ireturn, 1) := by decide +kernel
theorem dX12_lay_243 : decode cX12_lay 243 = .ok (.iinc 5 1, 3) := by decide +kernel
theorem dX12_lay_246 : decode cX12_lay 246 = .ok (.goto (-46), 3) := by decide +kernel
theorem dX12_lay_249 : decode cX12_lay 249 = .ok (.iinc 4 1, 3) := by decide +kernel
theorem dX12_lay_252 : decode cX12_lay 252 = .ok (.goto (-64), 3) := by decide +kernel
theorem dX12_lay_255 : decode cX12_lay 255 = .ok (.iconst 0, 1) := by decide +kernel
theorem dX12_lay_256 : decode cX12_lay 256 = .ok (.ireturn, 1) := by decide +kernel
theorem dX12_open_0 : decode cX12_open 0 = .ok (.aload_n 0, 1) := by decide +kernel
theorem dX12_open_1 : decode cX12_open 1 = .ok (.iconst 0, 1) := by decide +kernel
theorem dX12_open_2 : decode cX12_open 2 = .ok (.putfield 113, 3) := by decide +kernel
theorem dX12_open_5 : decode cX12_open 5 = .ok (.aload_n 0, 1) := by decide +kernel
theorem dX12_open_6 : decode cX12_open 6 = .ok (.invokevirtual 182, 3) := by decide +kernel
theorem dX12_open_9 : decode cX12_open 9 = .ok (.ifCond .eq 6, 3) := by decide +kernel
theorem dX12_open_12 : decode cX12_open 12 = .ok (.bipush (-4), 2) := by decide +kernel
theorem dX12_open_14 : decode cX12_open 14 = .ok (.ireturn, 1) := by decide +kernel
theorem dX12_open_15 : decode cX12_open 15 = .ok (.aload_n 0, 1) := by decide +kernel
theorem dX12_open_16 : decode cX12_open 16 = .ok (.invokevirtual 223, 3) := by decide +kernel
theorem dX12_open_19 : decode cX12_open 19 = .ok (.aload_n 0, 1) := by decide +kernel
theorem dX12_open_20 : decode cX12_open 20 = .ok (.getfield 195, 3) := by decide +kernel
theorem dX12_open_23 : decode cX12_open 23 = .ok (.bipush 60, 2) := by decide +kernel
theorem dX12_open_25 : decode cX12_open 25 = .ok (.if_icmp .le 6, 3) := by decide +kernel
theorem dX12_open_28 : decode cX12_open 28 = .ok (.bipush (-5), 2) := by decide +kernel
theorem dX12_open_30 : decode cX12_open 30 = .ok (.ireturn, 1) := by decide +kernel
theorem dX12_open_31 : decode cX12_open 31 = .ok (.aload_n 0, 1) := by decide +kernel
theorem dX12_open_32 : decode cX12_open 32 = .ok (.invokevirtual 239, 3) := by decide +kernel
theorem dX12_open_35 : decode cX12_open 35 = .ok (.istore_n 1, 1) := by decide +kernel
theorem dX12_open_36 : decode cX12_open 36 = .ok (.iload_n 1, 1) := by decide +kernel
theorem dX12_open_37 : decode cX12_open 37 = .ok (.ifCond .eq 8, 3) := by decide +kernel
theorem dX12_open_40 : decode cX12_open 40 = .ok (.bipush (-20), 2) := by decide +kernel
theorem dX12_open_42 : decode cX12_open 42 = .ok (.iload_n 1, 1) := by decide +kernel
theorem dX12_open_43 : decode cX12_open 43 = .ok (.isub, 1) := by decide +kernel
theorem dX12_open_44 : decode cX12_open 44 = .ok (.ireturn, 1) := by decide +kernel
theorem dX12_open_45 : decode cX12_open 45 = .ok (.iconst 0, 1) := by decide +kernel
theorem dX12_open_46 : decode cX12_open 46 = .ok (.istore_n 2, 1) := by decide +kernel
theorem dX12_open_47 : decode cX12_open 47 = .ok (.iload_n 2, 1) := by decide +kernel
theorem dX12_open_48 : decode cX12_open 48 = .ok (.aload_n 0, 1) := by decide +kernel
theorem dX12_open_49 : decode cX12_open 49 = .ok (.getfield 195, 3) := by decide +kernel
theorem dX12_open_52 : decode cX12_open 52 = .ok (.if_icmp .ge 44, 3) := by decide +kernel
theorem dX12_open_55 : decode cX12_open 55 = .ok (.aload_n 0, 1) := by decide +kernel
theorem dX12_open_56 : decode cX12_open 56 = .ok (.getfield 58, 3) := by decide +kernel
theorem dX12_open_59 : decode cX12_open 59 = .ok (.iload_n 2, 1) := by decide +kernel
theorem dX12_open_60 : decode cX12_open 60 = .ok (.iaload, 1) := by decide +kernel
theorem dX12_open_61 : decode cX12_open 61 = .ok (.bipush (-30), 2) := by decide +kernel
theorem dX12_open_63 : decode cX12_open 63 = .ok (.bipush 30, 2) := by decide +kernel
theorem dX12_open_65 : decode cX12_open 65 = .ok (.invokestatic 139, 3) := by decide +kernel
theorem dX12_open_68 : decode cX12_open 68 = .ok (.ifCond .eq 19, 3) := by decide +kernel
theorem dX12_open_71 : decode cX12_open 71 = .ok (.aload_n 0, 1) := by decide +kernel
theorem dX12_open_72 : decode cX12_open 72 = .ok (.getfield 61, 3) := by decide +kernel
theorem dX12_open_75 : decode cX12_open 75 = .ok (.iload_n 2, 1) := by decide +kernel
theorem dX12_open_76 : decode cX12_open 76 = .ok (.iaload, 1) := by decide +kernel
theorem dX12_open_77 : decode cX12_open 77 = .ok (.bipush (-30), 2) := by decide +kernel
theorem dX12_open_79 : decode cX12_open 79 = .ok (.bipush 30, 2) := by decide +kernel
theorem dX12_open_81 : decode cX12_open 81 = .ok (.invokestatic 139, 3) := by decide +kernel
theorem dX12_open_84 : decode cX12_open 84 = .ok (.ifCond .ne 6, 3) := by decide +kernel
theorem dX12_open_87 : decode cX12_open 87 = .ok (.bipush (-3), 2) := by decide +kernel
theorem dX12_open_89 : decode cX12_open 89 = .ok (.ireturn, 1) := by decide +kernel
theorem dX12_open_90 : decode cX12_open 90 = .ok (.iinc 2 1, 3) := by decide +kernel
theorem dX12_open_93 : decode cX12_open 93 = .ok (.goto (-46), 3) := by decide +kernel
theorem dX12_open_96 : decode cX12_open 96 = .ok (.aload_n 0, 1) := by decide +kernel
theorem dX12_open_97 : decode cX12_open 97 = .ok (.invokevirtual 136, 3) := by decide +kernel
theorem dX12_open_100 : decode cX12_open 100 = .ok (.aload_n 0, 1) := by decide +kernel
theorem dX12_open_101 : decode cX12_open 101 = .ok (.aload_n 0, 1) := by decide +kernel
theorem dX12_open_102 : decode cX12_open 102 = .ok (.getfield 195, 3) := by decide +kernel
theorem dX12_open_105 : decode cX12_open 105 = .ok (.putfield 127, 3) := by decide +kernel
theorem dX12_open_108 : decode cX12_open 108 = .ok (.iconst 0, 1) := by decide +kernel
theorem dX12_open_109 : decode cX12_open 109 = .ok (.istore_n 2, 1) := by decide +kernel
theorem dX12_open_110 : decode cX12_open 110 = .ok (.iload_n 2, 1) := by decide +kernel
theorem dX12_open_111 : decode cX12_open 111 = .ok (.aload_n 0, 1) := by decide +kernel
theorem dX12_open_112 : decode cX12_open 112 = .ok (.getfield 195, 3) := by decide +kernel
theorem dX12_open_115 : decode cX12_open 115 = .ok (.if_icmp .ge 150, 3) := by decide +kernel
theorem dX12_open_118 : decode cX12_open 118 = .ok (.aload_n 0, 1) := by decide +kernel
theorem dX12_open_119 : decode cX12_open 119 = .ok (.getfield 19, 3) := by decide +kernel
theorem dX12_open_122 : decode cX12_open 122 = .ok (.iload_n 2, 1) := by decide +kernel
theorem dX12_open_123 : decode cX12_open 123 = .ok (.aload_n 0, 1) := by decide +kernel
theorem dX12_open_124 : decode cX12_open 124 = .ok (.getfield 58, 3) := by decide +kernel
theorem dX12_open_127 : decode cX12_open 127 = .ok (.iload_n 2, 1) := by decide +kernel
theorem dX12_open_128 : decode cX12_open 128 = .ok (.iaload, 1) := by decide +kernel
theorem dX12_open_129 : decode cX12_open 129 = .ok (.iastore, 1) := by decide +kernel
theorem dX12_open_130 : decode cX12_open 130 = .ok (.aload_n 0, 1) := by decide +kernel
theorem dX12_open_131 : decode cX12_open 131 = .ok (.getfield 22, 3) := by decide +kernel
theorem dX12_open_134 : decode cX12_open 134 = .ok (.iload_n 2, 1) := by decide +kernel
theorem dX12_open_135 : decode cX12_open 135 = .ok (.aload_n 0, 1) := by decide +kernel
theorem dX12_open_136 : decode cX12_open 136 = .ok (.getfield 61, 3) := by decide +kernel
theorem dX12_open_139 : decode cX12_open 139 = .ok (.iload_n 2, 1) := by decide +kernel
theorem dX12_open_140 : decode cX12_open 140 = .ok (.iaload, 1) := by decide +kernel
theorem dX12_open_141 : decode cX12_open 141 = .ok (.iastore, 1) := by decide +kernel
theorem dX12_open_142 : decode cX12_open 142 = .ok (.aload_n 0, 1) := by decide +kernel
theorem dX12_open_143 : decode cX12_open 143 = .ok (.getfield 25, 3) := by decide +kernel
theorem dX12_open_146 : decode cX12_open 146 = .ok (.iload_n 2, 1) := by decide +kernel
theorem dX12_open_147 : decode cX12_open 147 = .ok (.iconst 0, 1) := by decide +kernel
theorem dX12_open_148 : decode cX12_open 148 = .ok (.iastore, 1) := by decide +kernel
theorem dX12_open_149 : decode cX12_open 149 = .ok (.aload_n 0, 1) := by decide +kernel
theorem dX12_open_150 : decode cX12_open 150 = .ok (.getfield 28, 3) := by decide +kernel
theorem dX12_open_153 : decode cX12_open 153 = .ok (.iload_n 2, 1) := by decide +kernel
theorem dX12_open_154 : decode cX12_open 154 = .ok (.iconst 0, 1) := by decide +kernel
theorem dX12_open_155 : decode cX12_open 155 = .ok (.iastore, 1) := by decide +kernel
theorem dX12_open_156 : decode cX12_open 156 = .ok (.iconst 0, 1) := by decide +kernel
theorem dX12_open_157 : decode cX12_open 157 = .ok (.istore_n 3, 1) := by decide +kernel
theorem dX12_open_158 : decode cX12_open 158 = .ok (.iload_n 3, 1) := by decide +kernel
theorem dX12_open_159 : decode cX12_open 159 = .ok (.iconst 4, 1) := by decide +kernel
theorem dX12_open_160 : decode cX12_open 160 = .ok (.if_icmp .ge 99, 3) := by decide +kernel
theorem dX12_open_163 : decode cX12_open 163 = .ok (.iload_n 3, 1) := by decide +kernel
theorem dX12_open_164 : decode cX12_open 164 = .ok (.aload_n 0, 1) := by decide +kernel
theorem dX12_open_165 : decode cX12_open 165 = .ok (.getfield 64, 3) := by decide +kernel
theorem dX12_open_168 : decode cX12_open 168 = .ok (.iload_n 2, 1) := by decide +kernel
theorem dX12_open_169 : decode cX12_open 169 = .ok (.iaload, 1) := by decide +kernel
theorem dX12_open_170 : decode cX12_open 170 = .ok (.iadd, 1) := by decide +kernel
theorem dX12_open_171 : decode cX12_open 171 = .ok (.iconst 4, 1) := by decide +kernel
theorem dX12_open_172 : decode cX12_open 172 = .ok (.irem, 1) := by decide +kernel
theorem dX12_open_173 : decode cX12_open 173 = .ok (.istore 4, 2) := by decide +kernel
theorem dX12_open_175 : decode cX12_open 175 = .ok (.aload_n 0, 1) := by decide +kernel
theorem dX12_open_176 : decode cX12_open 176 = .ok (.getfield 16, 3) := by decide +kernel
theorem dX12_open_179 : decode cX12_open 179 = .ok (.iconst 4, 1) := by decide +kernel
theorem dX12_open_180 : decode cX12_open 180 = .ok (.iload_n 2, 1) := by decide +kernel
theorem dX12_open_181 : decode cX12_open 181 = .ok (.imul, 1) := by decide +kernel
theorem dX12_open_182 : decode cX12_open 182 = .ok (.iload_n 3, 1) := by decide +kernel
theorem dX12_open_183 : decode cX12_open 183 = .ok (.iadd, 1) := by decide +kernel
theorem dX12_open_184 : decode cX12_open 184 = .ok (.iaload, 1) := by decide +kernel
theorem dX12_open_185 : decode cX12_open 185 = .ok (.ifCond .ne 68, 3) := by decide +kernel
theorem dX12_open_188 : decode cX12_open 188 = .ok (.iload 4, 2) := by decide +kernel
theorem dX12_open_190 : decode cX12_open 190 = .ok (.iconst 2, 1) := by decide +kernel
theorem dX12_open_191 : decode cX12_open 191 = .ok (.if_icmp .ge 62, 3) := by decide +kernel
theorem dX12_open_194 : decode cX12_open 194 = .ok (.aload_n 0, 1) := by decide +kernel
theorem dX12_open_195 : decode cX12_open 195 = .ok (.iload_n 2, 1) := by decide +kernel
theorem dX12_open_196 : decode cX12_open 196 = .ok (.iload_n 3, 1) := by decide +kernel
theorem dX12_open_197 : decode cX12_open 197 = .ok (.invokevirtual 226, 3) := by decide +kernel
theorem dX12_open_200 : decode cX12_open 200 = .ok (.aload_n 0, 1) := by decide +kernel
theorem dX12_open_201 : decode cX12_open 201 = .ok (.getfield 25, 3) := by decide +kernel
theorem dX12_open_204 : decode cX12_open 204 = .ok (.iload_n 2, 1) := by decide +kernel
theorem dX12_open_205 : decode cX12_open 205 = .ok (.iload 4, 2) := by decide +kernel
theorem dX12_open_207 : decode cX12_open 207 = .ok (.ifCond .ne 12, 3) := by decide +kernel
theorem dX12_open_210 : decode cX12_open 210 = .ok (.iconst 2, 1) := by decide +kernel
theorem dX12_open_211 : decode cX12_open 211 = .ok (.aload_n 0, 1) := by decide +kernel
theorem dX12_open_212 : decode cX12_open 212 = .ok (.getfield 204, 3) := by decide +kernel
theorem dX12_open_215 : decode cX12_open 215 = .ok (.iadd, 1) := by decide +kernel
theorem dX12_open_216 : decode cX12_open 216 = .ok (.goto 9, 3) := by decide +kernel
theorem dX12_open_219 : decode cX12_open 219 = .ok (.aload_n 0, 1) := by decide +kernel
theorem dX12_open_220 : decode cX12_open 220 = .ok (.getfield 25, 3) := by decide +kernel
theorem dX12_open_223 : decode cX12_open 223 = .ok (.iload_n 2, 1) := by decide +kernel
theorem dX12_open_224 : decode cX12_open 224 = .ok (.iaload, 1) := by decide +kernel
theorem dX12_open_225 : decode cX12_open 225 = .ok (.iastore, 1) := by decide +kernel
theorem dX12_open_226 : decode cX12_open 226 = .ok (.aload_n 0, 1) := by decide +kernel
theorem dX12_open_227 : decode cX12_open 227 = .ok (.getfield 28, 3) := by decide +kernel
theorem dX12_open_230 : decode cX12_open 230 = .ok (.iload_n 2, 1) := by decide +kernel
theorem dX12_open_231 : decode cX12_open 231 = .ok (.iload 4, 2) := by decide +kernel
theorem dX12_open_233 : decode cX12_open 233 = .ok (.iconst 1, 1) := by decide +kernel
theorem dX12_open_234 : decode cX12_open 234 = .ok (.if_icmp .ne 12, 3) := by decide +kernel
theorem dX12_open_237 : decode cX12_open 237 = .ok (.iconst 2, 1) := by decide +kernel
theorem dX12_open_238 : decode cX12_open 238 = .ok (.aload_n 0, 1) := by decide +kernel
theorem dX12_open_239 : decode cX12_open 239 = .ok (.getfield 204, 3) := by decide +kernel
theorem dX12_open_242 : decode cX12_open 242 = .ok (.iadd, 1) := by decide +kernel
theorem dX12_open_243 : decode cX12_open 243 = .ok (.goto 9, 3) := by decide +kernel
theorem dX12_open_246 : decode cX12_open 246 = .ok (.aload_n 0, 1) := by decide +kernel
theorem dX12_open_247 : decode cX12_open 247 = .ok (.getfield 28, 3) := by decide +kernel
theorem dX12_open_250 : decode cX12_open 250 = .ok (.iload_n 2, 1) := by decide +kernel
theorem dX12_open_251 : decode cX12_open 251 = .ok (.iaload, 1) := by decide +kernel
theorem dX12_open_252 : decode cX12_open 252 = .ok (.iastore, 1) := by decide +kernel
theorem dX12_open_253 : decode cX12_open 253 = .ok (.iinc 3 1, 3) := by decide +kernel
theorem dX12_open_256 : decode cX12_open 256 = .ok (.goto (-98), 3) := by decide +kernel
theorem dX12_open_259 : decode cX12_open 259 = .ok (.iinc 2 1, 3) := by decide +kernel
theorem dX12_open_262 : decode cX12_open 262 = .ok (.goto (-152), 3) := by decide +kernel
theorem dX12_open_265 : decode cX12_open 265 = .ok (.aload_n 0, 1) := by decide +kernel
theorem dX12_open_266 : decode cX12_open 266 = .ok (.invokevirtual 242, 3) := by decide +kernel
theorem dX12_open_269 : decode cX12_open 269 = .ok (.aload_n 0, 1) := by decide +kernel
theorem dX12_open_270 : decode cX12_open 270 = .ok (.invokevirtual 245, 3) := by decide +kernel
theorem dX12_open_273 : decode cX12_open 273 = .ok (.ireturn, 1) := by decide +kernel
theorem dX12_isAhead_0 : decode cX12_isAhead 0 = .ok (.iload_n 2, 1) := by decide +kernel
theorem dX12_isAhead_1 : decode cX12_isAhead 1 = .ok (.aload_n 0, 1) := by decide +kernel
theorem dX12_isAhead_2 : decode cX12_isAhead 2 = .ok (.getfield 22, 3) := by decide +kernel
theorem dX12_isAhead_5 : decode cX12_isAhead 5 = .ok (.iload_n 3, 1) := by decide +kernel
theorem dX12_isAhead_6 : decode cX12_isAhead 6 = .ok (.iaload, 1) := by decide +kernel
theorem dX12_isAhead_7 : decode cX12_isAhead 7 = .ok (.if_icmp .eq 21, 3) := by decide +kernel
theorem dX12_isAhead_10 : decode cX12_isAhead 10 = .ok (.iload_n 2, 1) := by decide +kernel
theorem dX12_isAhead_11 : decode cX12_isAhead 11 = .ok (.aload_n 0, 1) := by decide +kernel
theorem dX12_isAhead_12 : decode cX12_isAhead 12 = .ok (.getfield 22, 3) := by decide +kernel
theorem dX12_isAhead_15 : decode cX12_isAhead 15 = .ok (.iload_n 3, 1) := by decide +kernel
theorem dX12_isAhead_16 : decode cX12_isAhead 16 = .ok (.iaload, 1) := by decide +kernel
theorem dX12_isAhead_17 : decode cX12_isAhead 17 = .ok (.if_icmp .ge 7, 3) := by decide +kernel
theorem dX12_isAhead_20 : decode cX12_isAhead 20 = .ok (.iconst 1, 1) := by decide +kernel
theorem dX12_isAhead_21 : decode cX12_isAhead 21 = .ok (.goto 22, 3) := by decide +kernel
theorem dX12_isAhead_24 : decode cX12_isAhead 24 = .ok (.iconst 0, 1) := by decide +kernel
theorem dX12_isAhead_25 : decode cX12_isAhead 25 = .ok (.goto 18, 3) := by decide +kernel
theorem dX12_isAhead_28 : decode cX12_isAhead 28 = .ok (.iload_n 1, 1) := by decide +kernel
theorem dX12_isAhead_29 : decode cX12_isAhead 29 = .ok (.aload_n 0, 1) := by decide +kernel
theorem dX12_isAhead_30 : decode cX12_isAhead 30 = .ok (.getfield 19, 3) := by decide +kernel
theorem dX12_isAhead_33 : decode cX12_isAhead 33 = .ok (.iload_n 3, 1) := by decide +kernel
theorem dX12_isAhead_34 : decode cX12_isAhead 34 = .ok (.iaload, 1) := by decide +kernel
theorem dX12_isAhead_35 : decode cX12_isAhead 35 = .ok (.if_icmp .ge 7, 3) := by decide +kernel
theorem dX12_isAhead_38 : decode cX12_isAhead 38 = .ok (.iconst 1, 1) := by decide +kernel
theorem dX12_isAhead_39 : decode cX12_isAhead 39 = .ok (.goto 4, 3) := by decide +kernel
theorem dX12_isAhead_42 : decode cX12_isAhead 42 = .ok (.iconst 0, 1) := by decide +kernel
theorem dX12_isAhead_43 : decode cX12_isAhead 43 = .ok (.ireturn, 1) := by decide +kernel
theorem dX12_place_0 : decode cX12_place 0 = .ok (.aload_n 0, 1) := by decide +kernel
theorem dX12_place_1 : decode cX12_place 1 = .ok (.getfield 19, 3) := by decide +kernel
theorem dX12_place_4 : decode cX12_place 4 = .ok (.iload_n 1, 1) := by decide +kernel
theorem dX12_place_5 : decode cX12_place 5 = .ok (.iload_n 2, 1) := by decide +kernel
theorem dX12_place_6 : decode cX12_place 6 = .ok (.iastore, 1) := by decide +kernel
theorem dX12_place_7 : decode cX12_place 7 = .ok (.aload_n 0, 1) := by decide +kernel
theorem dX12_place_8 : decode cX12_place 8 = .ok (.getfield 22, 3) := by decide +kernel
theorem dX12_place_11 : decode cX12_place 11 = .ok (.iload_n 1, 1) := by decide +kernel
theorem dX12_place_12 : decode cX12_place 12 = .ok (.iload_n 3, 1) := by decide +kernel
theorem dX12_place_13 : decode cX12_place 13 = .ok (.iastore, 1) := by decide +kernel
theorem dX12_place_14 : decode cX12_place 14 = .ok (.aload_n 0, 1) := by decide +kernel
theorem dX12_place_15 : decode cX12_place 15 = .ok (.getfield 25, 3) := by decide +kernel
theorem dX12_place_18 : decode cX12_place 18 = .ok (.iload_n 1, 1) := by decide +kernel
theorem dX12_place_19 : decode cX12_place 19 = .ok (.iload 4, 2) := by decide +kernel
theorem dX12_place_21 : decode cX12_place 21 = .ok (.iastore, 1) := by decide +kernel
theorem dX12_place_22 : decode cX12_place 22 = .ok (.aload_n 0, 1) := by decide +kernel
theorem dX12_place_23 : decode cX12_place 23 = .ok (.getfield 28, 3) := by decide +kernel
theorem dX12_place_26 : decode cX12_place 26 = .ok (.iload_n 1, 1) := by decide +kernel
theorem dX12_place_27 : decode cX12_place 27 = .ok (.iload 5, 2) := by decide +kernel
theorem dX12_place_29 : decode cX12_place 29 = .ok (.iastore, 1) := by decide +kernel
theorem dX12_place_30 : decode cX12_place 30 = .ok (.return_, 1) := by decide +kernel
theorem dX12_sort_0 : decode cX12_sort 0 = .ok (.iconst 1, 1) := by decide +kernel
theorem dX12_sort_1 : decode cX12_sort 1 = .ok (.istore_n 1, 1) := by decide +kernel
theorem dX12_sort_2 : decode cX12_sort 2 = .ok (.iload_n 1, 1) := by decide +kernel
theorem dX12_sort_3 : decode cX12_sort 3 = .ok (.aload_n 0, 1) := by decide +kernel
theorem dX12_sort_4 : decode cX12_sort 4 = .ok (.getfield 127, 3) := by decide +kernel
theorem dX12_sort_7 : decode cX12_sort 7 = .ok (.if_icmp .ge 120, 3) := by decide +kernel
theorem dX12_sort_10 : decode cX12_sort 10 = .ok (.aload_n 0, 1) := by decide +kernel
theorem dX12_sort_11 : decode cX12_sort 11 = .ok (.getfield 19, 3) := by decide +kernel
theorem dX12_sort_14 : decode cX12_sort 14 = .ok (.iload_n 1, 1) := by decide +kernel
theorem dX12_sort_15 : decode cX12_sort 15 = .ok (.iaload, 1) := by decide +kernel
theorem dX12_sort_16 : decode cX12_sort 16 = .ok (.istore_n 2, 1) := by decide +kernel
theorem dX12_sort_17 : decode cX12_sort 17 = .ok (.aload_n 0, 1) := by decide +kernel
theorem dX12_sort_18 : decode cX12_sort 18 = .ok (.getfield 22, 3) := by decide +kernel
theorem dX12_sort_21 : decode cX12_sort 21 = .ok (.iload_n 1, 1) := by decide +kernel
theorem dX12_sort_22 : decode cX12_sort 22 = .ok (.iaload, 1) := by decide +kernel
theorem dX12_sort_23 : decode cX12_sort 23 = .ok (.istore_n 3, 1) := by decide +kernel
theorem dX12_sort_24 : decode cX12_sort 24 = .ok (.aload_n 0, 1) := by decide +kernel
theorem dX12_sort_25 : decode cX12_sort 25 = .ok (.getfield 25, 3) := by decide +kernel
theorem dX12_sort_28 : decode cX12_sort 28 = .ok (.iload_n 1, 1) := by decide +kernel
theorem dX12_sort_29 : decode cX12_sort 29 = .ok (.iaload, 1) := by decide +kernel
theorem dX12_sort_30 : decode cX12_sort 30 = .ok (.istore 4, 2) := by decide +kernel
theorem dX12_sort_32 : decode cX12_sort 32 = .ok (.aload_n 0, 1) := by decide +kernel
theorem dX12_sort_33 : decode cX12_sort 33 = .ok (.getfield 28, 3) := by decide +kernel
theorem dX12_sort_36 : decode cX12_sort 36 = .ok (.iload_n 1, 1) := by decide +kernel
theorem dX12_sort_37 : decode cX12_sort 37 = .ok (.iaload, 1) := by decide +kernel
theorem dX12_sort_38 : decode cX12_sort 38 = .ok (.istore 5, 2) := by decide +kernel
theorem dX12_sort_40 : decode cX12_sort 40 = .ok (.iload_n 1, 1) := by decide +kernel
theorem dX12_sort_41 : decode cX12_sort 41 = .ok (.istore 6, 2) := by decide +kernel
theorem dX12_sort_43 : decode cX12_sort 43 = .ok (.iload 6, 2) := by decide +kernel
theorem dX12_sort_45 : decode cX12_sort 45 = .ok (.ifCond .le 64, 3) := by decide +kernel
theorem dX12_sort_48 : decode cX12_sort 48 = .ok (.aload_n 0, 1) := by decide +kernel
theorem dX12_sort_49 : decode cX12_sort 49 = .ok (.iload_n 2, 1) := by decide +kernel
theorem dX12_sort_50 : decode cX12_sort 50 = .ok (.iload_n 3, 1) := by decide +kernel
theorem dX12_sort_51 : decode cX12_sort 51 = .ok (.iload 6, 2) := by decide +kernel
theorem dX12_sort_53 : decode cX12_sort 53 = .ok (.iconst 1, 1) := by decide +kernel
theorem dX12_sort_54 : decode cX12_sort 54 = .ok (.isub, 1) := by decide +kernel
theorem dX12_sort_55 : decode cX12_sort 55 = .ok (.invokevirtual 248, 3) := by decide +kernel
