theorem dX0_init_0 : decode cX0_init 0 = .ok (.aload_n 0, 1) := by decide +kernel
theorem dX0_init_1 : decode cX0_init 1 = .ok (.invokespecial 1, 3) := by decide +kernel
theorem dX0_init_4 : decode cX0_init 4 = .ok (.aload_n 0, 1) := by decide +kernel
theorem dX0_init_5 : decode cX0_init 5 = .ok (.new 7, 3) := by decide +kernel
theorem dX0_init_8 : decode cX0_init 8 = .ok (.dup, 1) := by decide +kernel
theorem dX0_init_9 : decode cX0_init 9 = .ok (.invokespecial 9, 3) := by decide +kernel
theorem dX0_init_12 : decode cX0_init 12 = .ok (.putfield 10, 3) := by decide +kernel
theorem dX0_init_15 : decode cX0_init 15 = .ok (.aload_n 0, 1) := by decide +kernel
theorem dX0_init_16 : decode cX0_init 16 = .ok (.new 16, 3) := by decide +kernel
theorem dX0_init_19 : decode cX0_init 19 = .ok (.dup, 1) := by decide +kernel
theorem dX0_init_20 : decode cX0_init 20 = .ok (.invokespecial 18, 3) := by decide +kernel
theorem dX0_init_23 : decode cX0_init 23 = .ok (.putfield 19, 3) := by decide +kernel
theorem dX0_init_26 : decode cX0_init 26 = .ok (.aload_n 0, 1) := by decide +kernel
theorem dX0_init_27 : decode cX0_init 27 = .ok (.new 23, 3) := by decide +kernel
theorem dX0_init_30 : decode cX0_init 30 = .ok (.dup, 1) := by decide +kernel
theorem dX0_init_31 : decode cX0_init 31 = .ok (.invokespecial 25, 3) := by decide +kernel
theorem dX0_init_34 : decode cX0_init 34 = .ok (.putfield 26, 3) := by decide +kernel
theorem dX0_init_37 : decode cX0_init 37 = .ok (.return_, 1) := by decide +kernel
theorem dX0_become_0 : decode cX0_become 0 = .ok (.aload_n 0, 1) := by decide +kernel
theorem dX0_become_1 : decode cX0_become 1 = .ok (.getfield 10, 3) := by decide +kernel
theorem dX0_become_4 : decode cX0_become 4 = .ok (.aload_n 1, 1) := by decide +kernel
theorem dX0_become_5 : decode cX0_become 5 = .ok (.getfield 10, 3) := by decide +kernel
theorem dX0_become_8 : decode cX0_become 8 = .ok (.invokevirtual 30, 3) := by decide +kernel
theorem dX0_become_11 : decode cX0_become 11 = .ok (.aload_n 0, 1) := by decide +kernel
theorem dX0_become_12 : decode cX0_become 12 = .ok (.getfield 19, 3) := by decide +kernel
theorem dX0_become_15 : decode cX0_become 15 = .ok (.aload_n 1, 1) := by decide +kernel
theorem dX0_become_16 : decode cX0_become 16 = .ok (.getfield 19, 3) := by decide +kernel
theorem dX0_become_19 : decode cX0_become 19 = .ok (.invokevirtual 34, 3) := by decide +kernel
theorem dX0_become_22 : decode cX0_become 22 = .ok (.aload_n 0, 1) := by decide +kernel
theorem dX0_become_23 : decode cX0_become 23 = .ok (.getfield 26, 3) := by decide +kernel
theorem dX0_become_26 : decode cX0_become 26 = .ok (.aload_n 1, 1) := by decide +kernel
theorem dX0_become_27 : decode cX0_become 27 = .ok (.getfield 26, 3) := by decide +kernel
theorem dX0_become_30 : decode cX0_become 30 = .ok (.invokevirtual 37, 3) := by decide +kernel
theorem dX0_become_33 : decode cX0_become 33 = .ok (.return_, 1) := by decide +kernel
theorem dX1_init_0 : decode cX1_init 0 = .ok (.aload_n 0, 1) := by decide +kernel
theorem dX1_init_1 : decode cX1_init 1 = .ok (.invokespecial 1, 3) := by decide +kernel
theorem dX1_init_4 : decode cX1_init 4 = .ok (.aload_n 0, 1) := by decide +kernel
theorem dX1_init_5 : decode cX1_init 5 = .ok (.iconst 4, 1) := by decide +kernel
theorem dX1_init_6 : decode cX1_init 6 = .ok (.newarray .int, 2) := by decide +kernel
theorem dX1_init_8 : decode cX1_init 8 = .ok (.putfield 9, 3) := by decide +kernel
theorem dX1_init_11 : decode cX1_init 11 = .ok (.aload_n 0, 1) := by decide +kernel
theorem dX1_init_12 : decode cX1_init 12 = .ok (.getfield 9, 3) := by decide +kernel
theorem dX1_init_15 : decode cX1_init 15 = .ok (.iconst (-1), 1) := by decide +kernel
theorem dX1_init_16 : decode cX1_init 16 = .ok (.invokestatic 13, 3) := by decide +kernel
theorem dX1_init_19 : decode cX1_init 19 = .ok (.return_, 1) := by decide +kernel
theorem dX1_coordinate_0 : decode cX1_coordinate 0 = .ok (.iload_n 0, 1) := by decide +kernel
theorem dX1_coordinate_1 : decode cX1_coordinate 1 = .ok (.iconst 2, 1) := by decide +kernel
theorem dX1_coordinate_2 : decode cX1_coordinate 2 = .ok (.iload_n 1, 1) := by decide +kernel
theorem dX1_coordinate_3 : decode cX1_coordinate 3 = .ok (.imul, 1) := by decide +kernel
theorem dX1_coordinate_4 : decode cX1_coordinate 4 = .ok (.ishr, 1) := by decide +kernel
theorem dX1_coordinate_5 : decode cX1_coordinate 5 = .ok (.iconst 3, 1) := by decide +kernel
theorem dX1_coordinate_6 : decode cX1_coordinate 6 = .ok (.iand, 1) := by decide +kernel
theorem dX1_coordinate_7 : decode cX1_coordinate 7 = .ok (.ireturn, 1) := by decide +kernel
theorem dX1_against_0 : decode cX1_against 0 = .ok (.iload_n 0, 1) := by decide +kernel
theorem dX1_against_1 : decode cX1_against 1 = .ok (.iconst 1, 1) := by decide +kernel
theorem dX1_against_2 : decode cX1_against 2 = .ok (.ixor, 1) := by decide +kernel
theorem dX1_against_3 : decode cX1_against 3 = .ok (.ireturn, 1) := by decide +kernel
theorem dX1_step_0 : decode cX1_step 0 = .ok (.iload_n 0, 1) := by decide +kernel
theorem dX1_step_1 : decode cX1_step 1 = .ok (.iconst 1, 1) := by decide +kernel
theorem dX1_step_2 : decode cX1_step 2 = .ok (.ishr, 1) := by decide +kernel
theorem dX1_step_3 : decode cX1_step 3 = .ok (.iload_n 1, 1) := by decide +kernel
theorem dX1_step_4 : decode cX1_step 4 = .ok (.if_icmp .eq 5, 3) := by decide +kernel
theorem dX1_step_7 : decode cX1_step 7 = .ok (.iconst 0, 1) := by decide +kernel
theorem dX1_step_8 : decode cX1_step 8 = .ok (.ireturn, 1) := by decide +kernel
theorem dX1_step_9 : decode cX1_step 9 = .ok (.iload_n 0, 1) := by decide +kernel
theorem dX1_step_10 : decode cX1_step 10 = .ok (.iconst 1, 1) := by decide +kernel
theorem dX1_step_11 : decode cX1_step 11 = .ok (.iand, 1) := by decide +kernel
theorem dX1_step_12 : decode cX1_step 12 = .ok (.ifCond .ne 7, 3) := by decide +kernel
theorem dX1_step_15 : decode cX1_step 15 = .ok (.iconst 1, 1) := by decide +kernel
theorem dX1_step_16 : decode cX1_step 16 = .ok (.goto 4, 3) := by decide +kernel
theorem dX1_step_19 : decode cX1_step 19 = .ok (.iconst (-1), 1) := by decide +kernel
theorem dX1_step_20 : decode cX1_step 20 = .ok (.ireturn, 1) := by decide +kernel
theorem dX1_beyond_0 : decode cX1_beyond 0 = .ok (.iload_n 0, 1) := by decide +kernel
theorem dX1_beyond_1 : decode cX1_beyond 1 = .ok (.ifCond .ge 5, 3) := by decide +kernel
theorem dX1_beyond_4 : decode cX1_beyond 4 = .ok (.iconst (-1), 1) := by decide +kernel
theorem dX1_beyond_5 : decode cX1_beyond 5 = .ok (.ireturn, 1) := by decide +kernel
theorem dX1_beyond_6 : decode cX1_beyond 6 = .ok (.iload_n 1, 1) := by decide +kernel
theorem dX1_beyond_7 : decode cX1_beyond 7 = .ok (.iconst 1, 1) := by decide +kernel
theorem dX1_beyond_8 : decode cX1_beyond 8 = .ok (.ishr, 1) := by decide +kernel
theorem dX1_beyond_9 : decode cX1_beyond 9 = .ok (.istore_n 2, 1) := by decide +kernel
theorem dX1_beyond_10 : decode cX1_beyond 10 = .ok (.iload_n 1, 1) := by decide +kernel
theorem dX1_beyond_11 : decode cX1_beyond 11 = .ok (.iload_n 2, 1) := by decide +kernel
theorem dX1_beyond_12 : decode cX1_beyond 12 = .ok (.invokestatic 19, 3) := by decide +kernel
theorem dX1_beyond_15 : decode cX1_beyond 15 = .ok (.istore_n 3, 1) := by decide +kernel
theorem dX1_beyond_16 : decode cX1_beyond 16 = .ok (.iload_n 0, 1) := by decide +kernel
theorem dX1_beyond_17 : decode cX1_beyond 17 = .ok (.iload_n 2, 1) := by decide +kernel
theorem dX1_beyond_18 : decode cX1_beyond 18 = .ok (.invokestatic 23, 3) := by decide +kernel
theorem dX1_beyond_21 : decode cX1_beyond 21 = .ok (.iload_n 3, 1) := by decide +kernel
theorem dX1_beyond_22 : decode cX1_beyond 22 = .ok (.iadd, 1) := by decide +kernel
theorem dX1_beyond_23 : decode cX1_beyond 23 = .ok (.istore 4, 2) := by decide +kernel
theorem dX1_beyond_25 : decode cX1_beyond 25 = .ok (.iload 4, 2) := by decide +kernel
theorem dX1_beyond_27 : decode cX1_beyond 27 = .ok (.ifCond .lt 9, 3) := by decide +kernel
theorem dX1_beyond_30 : decode cX1_beyond 30 = .ok (.iload 4, 2) := by decide +kernel
theorem dX1_beyond_32 : decode cX1_beyond 32 = .ok (.iconst 3, 1) := by decide +kernel
theorem dX1_beyond_33 : decode cX1_beyond 33 = .ok (.if_icmp .le 5, 3) := by decide +kernel
theorem dX1_beyond_36 : decode cX1_beyond 36 = .ok (.iconst (-1), 1) := by decide +kernel
theorem dX1_beyond_37 : decode cX1_beyond 37 = .ok (.ireturn, 1) := by decide +kernel
theorem dX1_beyond_38 : decode cX1_beyond 38 = .ok (.iload_n 0, 1) := by decide +kernel
theorem dX1_beyond_39 : decode cX1_beyond 39 = .ok (.iload_n 3, 1) := by decide +kernel
theorem dX1_beyond_40 : decode cX1_beyond 40 = .ok (.iconst 1, 1) := by decide +kernel
theorem dX1_beyond_41 : decode cX1_beyond 41 = .ok (.iconst 2, 1) := by decide +kernel
theorem dX1_beyond_42 : decode cX1_beyond 42 = .ok (.iload_n 2, 1) := by decide +kernel
theorem dX1_beyond_43 : decode cX1_beyond 43 = .ok (.imul, 1) := by decide +kernel
theorem dX1_beyond_44 : decode cX1_beyond 44 = .ok (.ishl, 1) := by decide +kernel
theorem dX1_beyond_45 : decode cX1_beyond 45 = .ok (.imul, 1) := by decide +kernel
theorem dX1_beyond_46 : decode cX1_beyond 46 = .ok (.iadd, 1) := by decide +kernel
theorem dX1_beyond_47 : decode cX1_beyond 47 = .ok (.ireturn, 1) := by decide +kernel
theorem dX1_has_0 : decode cX1_has 0 = .ok (.iload_n 2, 1) := by decide +kernel
theorem dX1_has_1 : decode cX1_has 1 = .ok (.ifCond .lt 17, 3) := by decide +kernel
theorem dX1_has_4 : decode cX1_has 4 = .ok (.lload_n 0, 1) := by decide +kernel
theorem dX1_has_5 : decode cX1_has 5 = .ok (.iload_n 2, 1) := by decide +kernel
theorem dX1_has_6 : decode cX1_has 6 = .ok (.lshr, 1) := by decide +kernel
theorem dX1_has_7 : decode cX1_has 7 = .ok (.lconst 1, 1) := by decide +kernel
theorem dX1_has_8 : decode cX1_has 8 = .ok (.land, 1) := by decide +kernel
theorem dX1_has_9 : decode cX1_has 9 = .ok (.lconst 1, 1) := by decide +kernel
theorem dX1_has_10 : decode cX1_has 10 = .ok (.lcmp, 1) := by decide +kernel
theorem dX1_has_11 : decode cX1_has 11 = .ok (.ifCond .ne 7, 3) := by decide +kernel
theorem dX1_has_14 : decode cX1_has 14 = .ok (.iconst 1, 1) := by decide +kernel
theorem dX1_has_15 : decode cX1_has 15 = .ok (.goto 4, 3) := by decide +kernel
theorem dX1_has_18 : decode cX1_has 18 = .ok (.iconst 0, 1) := by decide +kernel
theorem dX1_has_19 : decode cX1_has 19 = .ok (.ireturn, 1) := by decide +kernel
theorem dX1_become_0 : decode cX1_become 0 = .ok (.aload_n 1, 1) := by decide +kernel
theorem dX1_become_1 : decode cX1_become 1 = .ok (.getfield 9, 3) := by decide +kernel
theorem dX1_become_4 : decode cX1_become 4 = .ok (.iconst 0, 1) := by decide +kernel
theorem dX1_become_5 : decode cX1_become 5 = .ok (.aload_n 0, 1) := by decide +kernel
theorem dX1_become_6 : decode cX1_become 6 = .ok (.getfield 9, 3) := by decide +kernel
theorem dX1_become_9 : decode cX1_become 9 = .ok (.iconst 0, 1) := by decide +kernel
theorem dX1_become_10 : decode cX1_become 10 = .ok (.iconst 4, 1) := by decide +kernel
theorem dX1_become_11 : decode cX1_become 11 = .ok (.invokestatic 26, 3) := by decide +kernel
theorem dX1_become_14 : decode cX1_become 14 = .ok (.return_, 1) := by decide +kernel
theorem dX1_misses_0 : decode cX1_misses 0 = .ok (.aload_n 0, 1) := by decide +kernel
theorem dX1_misses_1 : decode cX1_misses 1 = .ok (.getfield 9, 3) := by decide +kernel
theorem dX1_misses_4 : decode cX1_misses 4 = .ok (.iload_n 1, 1) := by decide +kernel
theorem dX1_misses_5 : decode cX1_misses 5 = .ok (.iaload, 1) := by decide +kernel
theorem dX1_misses_6 : decode cX1_misses 6 = .ok (.iconst (-1), 1) := by decide +kernel
theorem dX1_misses_7 : decode cX1_misses 7 = .ok (.if_icmp .ne 7, 3) := by decide +kernel
theorem dX1_misses_10 : decode cX1_misses 10 = .ok (.iconst 1, 1) := by decide +kernel
theorem dX1_misses_11 : decode cX1_misses 11 = .ok (.goto 4, 3) := by decide +kernel
theorem dX1_misses_14 : decode cX1_misses 14 = .ok (.iconst 0, 1) := by decide +kernel
theorem dX1_misses_15 : decode cX1_misses 15 = .ok (.ireturn, 1) := by decide +kernel
theorem dX1_bitsOf_0 : decode cX1_bitsOf 0 = .ok (.aload_n 0, 1) := by decide +kernel
theorem dX1_bitsOf_1 : decode cX1_bitsOf 1 = .ok (.iload_n 1, 1) := by decide +kernel
theorem dX1_bitsOf_2 : decode cX1_bitsOf 2 = .ok (.invokevirtual 32, 3) := by decide +kernel
theorem dX1_bitsOf_5 : decode cX1_bitsOf 5 = .ok (.ifCond .eq 7, 3) := by decide +kernel
theorem dX1_bitsOf_8 : decode cX1_bitsOf 8 = .ok (.iconst 0, 1) := by decide +kernel
theorem dX1_bitsOf_9 : decode cX1_bitsOf 9 = .ok (.goto 9, 3) := by decide +kernel
theorem dX1_bitsOf_12 : decode cX1_bitsOf 12 = .ok (.aload_n 0, 1) := by decide +kernel
theorem dX1_bitsOf_13 : decode cX1_bitsOf 13 = .ok (.getfield 9, 3) := by decide +kernel
theorem dX1_bitsOf_16 : decode cX1_bitsOf 16 = .ok (.iload_n 1, 1) := by decide +kernel
theorem dX1_bitsOf_17 : decode cX1_bitsOf 17 = .ok (.iaload, 1) := by decide +kernel
theorem dX1_bitsOf_18 : decode cX1_bitsOf 18 = .ok (.ireturn, 1) := by decide +kernel
theorem dX1_put_0 : decode cX1_put 0 = .ok (.aload_n 0, 1) := by decide +kernel
theorem dX1_put_1 : decode cX1_put 1 = .ok (.getfield 9, 3) := by decide +kernel
theorem dX1_put_4 : decode cX1_put 4 = .ok (.iload_n 1, 1) := by decide +kernel
theorem dX1_put_5 : decode cX1_put 5 = .ok (.iload_n 2, 1) := by decide +kernel
theorem dX1_put_6 : decode cX1_put 6 = .ok (.ldc 36, 2) := by decide +kernel
theorem dX1_put_8 : decode cX1_put 8 = .ok (.iand, 1) := by decide +kernel
theorem dX1_put_9 : decode cX1_put 9 = .ok (.iastore, 1) := by decide +kernel
theorem dX1_put_10 : decode cX1_put 10 = .ok (.return_, 1) := by decide +kernel
theorem dX1_take_0 : decode cX1_take 0 = .ok (.aload_n 0, 1) := by decide +kernel
theorem dX1_take_1 : decode cX1_take 1 = .ok (.getfield 9, 3) := by decide +kernel
theorem dX1_take_4 : decode cX1_take 4 = .ok (.iload_n 1, 1) := by decide +kernel
theorem dX1_take_5 : decode cX1_take 5 = .ok (.iconst (-1), 1) := by decide +kernel
theorem dX1_take_6 : decode cX1_take 6 = .ok (.iastore, 1) := by decide +kernel
theorem dX1_take_7 : decode cX1_take 7 = .ok (.return_, 1) := by decide +kernel
theorem dX1_cubesIn_0 : decode cX1_cubesIn 0 = .ok (.aload_n 0, 1) := by decide +kernel
theorem dX1_cubesIn_1 : decode cX1_cubesIn 1 = .ok (.iload_n 1, 1) := by decide +kernel
theorem dX1_cubesIn_2 : decode cX1_cubesIn 2 = .ok (.invokevirtual 37, 3) := by decide +kernel
theorem dX1_cubesIn_5 : decode cX1_cubesIn 5 = .ok (.invokestatic 41, 3) := by decide +kernel
theorem dX1_cubesIn_8 : decode cX1_cubesIn 8 = .ok (.ireturn, 1) := by decide +kernel
theorem dX1_cubes_0 : decode cX1_cubes 0 = .ok (.aload_n 0, 1) := by decide +kernel
theorem dX1_cubes_1 : decode cX1_cubes 1 = .ok (.invokevirtual 46, 3) := by decide +kernel
theorem dX1_cubes_4 : decode cX1_cubes 4 = .ok (.invokestatic 50, 3) := by decide +kernel
theorem dX1_cubes_7 : decode cX1_cubes 7 = .ok (.ireturn, 1) := by decide +kernel
theorem dX1_layersThere_0 : decode cX1_layersThere 0 = .ok (.iconst 0, 1) := by decide +kernel
theorem dX1_layersThere_1 : decode cX1_layersThere 1 = .ok (.istore_n 1, 1) := by decide +kernel
theorem dX1_layersThere_2 : decode cX1_layersThere 2 = .ok (.iconst 0, 1) := by decide +kernel
theorem dX1_layersThere_3 : decode cX1_layersThere 3 = .ok (.istore_n 2, 1) := by decide +kernel
theorem dX1_layersThere_4 : decode cX1_layersThere 4 = .ok (.iload_n 2, 1) := by decide +kernel
theorem dX1_layersThere_5 : decode cX1_layersThere 5 = .ok (.iconst 4, 1) := by decide +kernel
theorem dX1_layersThere_6 : decode cX1_layersThere 6 = .ok (.if_icmp .ge 25, 3) := by decide +kernel
theorem dX1_layersThere_9 : decode cX1_layersThere 9 = .ok (.iload_n 1, 1) := by decide +kernel
theorem dX1_layersThere_10 : decode cX1_layersThere 10 = .ok (.aload_n 0, 1) := by decide +kernel
theorem dX1_layersThere_11 : decode cX1_layersThere 11 = .ok (.iload_n 2, 1) := by decide +kernel
theorem dX1_layersThere_12 : decode cX1_layersThere 12 = .ok (.invokevirtual 32, 3) := by decide +kernel
theorem dX1_layersThere_15 : decode cX1_layersThere 15 = .ok (.ifCond .eq 7, 3) := by decide +kernel
theorem dX1_layersThere_18 : decode cX1_layersThere 18 = .ok (.iconst 0, 1) := by decide +kernel
theorem dX1_layersThere_19 : decode cX1_layersThere 19 = .ok (.goto 4, 3) := by decide +kernel
theorem dX1_layersThere_22 : decode cX1_layersThere 22 = .ok (.iconst 1, 1) := by decide +kernel
theorem dX1_layersThere_23 : decode cX1_layersThere 23 = .ok (.iadd, 1) := by decide +kernel
theorem dX1_layersThere_24 : decode cX1_layersThere 24 = .ok (.istore_n 1, 1) := by decide +kernel
theorem dX1_layersThere_25 : decode cX1_layersThere 25 = .ok (.iinc 2 1, 3) := by decide +kernel
theorem dX1_layersThere_28 : decode cX1_layersThere 28 = .ok (.goto (-24), 3) := by decide +kernel
theorem dX1_layersThere_31 : decode cX1_layersThere 31 = .ok (.iload_n 1, 1) := by decide +kernel
theorem dX1_layersThere_32 : decode cX1_layersThere 32 = .ok (.ireturn, 1) := by decide +kernel
theorem dX1_cells_0 : decode cX1_cells 0 = .ok (.lconst 0, 1) := by decide +kernel
theorem dX1_cells_1 : decode cX1_cells 1 = .ok (.lstore_n 1, 1) := by decide +kernel
theorem dX1_cells_2 : decode cX1_cells 2 = .ok (.iconst 0, 1) := by decide +kernel
theorem dX1_cells_3 : decode cX1_cells 3 = .ok (.istore_n 3, 1) := by decide +kernel
theorem dX1_cells_4 : decode cX1_cells 4 = .ok (.iload_n 3, 1) := by decide +kernel
theorem dX1_cells_5 : decode cX1_cells 5 = .ok (.iconst 4, 1) := by decide +kernel
theorem dX1_cells_6 : decode cX1_cells 6 = .ok (.if_icmp .ge 23, 3) := by decide +kernel
theorem dX1_cells_9 : decode cX1_cells 9 = .ok (.lload_n 1, 1) := by decide +kernel
theorem dX1_cells_10 : decode cX1_cells 10 = .ok (.aload_n 0, 1) := by decide +kernel
theorem dX1_cells_11 : decode cX1_cells 11 = .ok (.iload_n 3, 1) := by decide +kernel
theorem dX1_cells_12 : decode cX1_cells 12 = .ok (.invokevirtual 37, 3) := by decide +kernel
theorem dX1_cells_15 : decode cX1_cells 15 = .ok (.i2l, 1) := by decide +kernel
theorem dX1_cells_16 : decode cX1_cells 16 = .ok (.bipush 16, 2) := by decide +kernel
theorem dX1_cells_18 : decode cX1_cells 18 = .ok (.iload_n 3, 1) := by decide +kernel
theorem dX1_cells_19 : decode cX1_cells 19 = .ok (.imul, 1) := by decide +kernel
theorem dX1_cells_20 : decode cX1_cells 20 = .ok (.lshl, 1) := by decide +kernel
theorem dX1_cells_21 : decode cX1_cells 21 = .ok (.lor, 1) := by decide +kernel
theorem dX1_cells_22 : decode cX1_cells 22 = .ok (.lstore_n 1, 1) := by decide +kernel
theorem dX1_cells_23 : decode cX1_cells 23 = .ok (.iinc 3 1, 3) := by decide +kernel
theorem dX1_cells_26 : decode cX1_cells 26 = .ok (.goto (-22), 3) := by decide +kernel
theorem dX1_cells_29 : decode cX1_cells 29 = .ok (.lload_n 1, 1) := by decide +kernel
theorem dX1_cells_30 : decode cX1_cells 30 = .ok (.lreturn, 1) := by decide +kernel
theorem dX1_faultOf_0 : decode cX1_faultOf 0 = .ok (.lload_n 0, 1) := by decide +kernel
theorem dX1_faultOf_1 : decode cX1_faultOf 1 = .ok (.lconst 0, 1) := by decide +kernel
theorem dX1_faultOf_2 : decode cX1_faultOf 2 = .ok (.lcmp, 1) := by decide +kernel
theorem dX1_faultOf_3 : decode cX1_faultOf 3 = .ok (.ifCond .ne 5, 3) := by decide +kernel
theorem dX1_faultOf_6 : decode cX1_faultOf 6 = .ok (.iconst 1, 1) := by decide +kernel
theorem dX1_faultOf_7 : decode cX1_faultOf 7 = .ok (.ireturn, 1) := by decide +kernel
theorem dX1_faultOf_8 : decode cX1_faultOf 8 = .ok (.lload_n 0, 1) := by decide +kernel
theorem dX1_faultOf_9 : decode cX1_faultOf 9 = .ok (.invokestatic 55, 3) := by decide +kernel
theorem dX1_faultOf_12 : decode cX1_faultOf 12 = .ok (.ifCond .ne 5, 3) := by decide +kernel
theorem dX1_faultOf_15 : decode cX1_faultOf 15 = .ok (.iconst 2, 1) := by decide +kernel
theorem dX1_faultOf_16 : decode cX1_faultOf 16 = .ok (.ireturn, 1) := by decide +kernel
theorem dX1_faultOf_17 : decode cX1_faultOf 17 = .ok (.lload_n 0, 1) := by decide +kernel
theorem dX1_faultOf_18 : decode cX1_faultOf 18 = .ok (.invokestatic 59, 3) := by decide +kernel
theorem dX1_faultOf_21 : decode cX1_faultOf 21 = .ok (.ifCond .ne 5, 3) := by decide +kernel
theorem dX1_faultOf_24 : decode cX1_faultOf 24 = .ok (.iconst 3, 1) := by decide +kernel
theorem dX1_faultOf_25 : decode cX1_faultOf 25 = .ok (.ireturn, 1) := by decide +kernel
theorem dX1_faultOf_26 : decode cX1_faultOf 26 = .ok (.ldc2_w 62, 3) := by decide +kernel
theorem dX1_faultOf_29 : decode cX1_faultOf 29 = .ok (.lstore_n 2, 1) := by decide +kernel
theorem dX1_faultOf_30 : decode cX1_faultOf 30 = .ok (.lload_n 0, 1) := by decide +kernel
theorem dX1_faultOf_31 : decode cX1_faultOf 31 = .ok (.ldc2_w 64, 3) := by decide +kernel
theorem dX1_faultOf_34 : decode cX1_faultOf 34 = .ok (.lxor, 1) := by decide +kernel
theorem dX1_faultOf_35 : decode cX1_faultOf 35 = .ok (.lload_n 2, 1) := by decide +kernel
theorem dX1_faultOf_36 : decode cX1_faultOf 36 = .ok (.land, 1) := by decide +kernel
theorem dX1_faultOf_37 : decode cX1_faultOf 37 = .ok (.lload_n 0, 1) := by decide +kernel
theorem dX1_faultOf_38 : decode cX1_faultOf 38 = .ok (.ldc2_w 64, 3) := by decide +kernel
theorem dX1_faultOf_41 : decode cX1_faultOf 41 = .ok (.lxor, 1) := by decide +kernel
theorem dX1_faultOf_42 : decode cX1_faultOf 42 = .ok (.invokestatic 66, 3) := by decide +kernel
theorem dX1_faultOf_45 : decode cX1_faultOf 45 = .ok (.lload_n 0, 1) := by decide +kernel
theorem dX1_faultOf_46 : decode cX1_faultOf 46 = .ok (.ldc2_w 64, 3) := by decide +kernel
theorem dX1_faultOf_49 : decode cX1_faultOf 49 = .ok (.lxor, 1) := by decide +kernel
theorem dX1_faultOf_50 : decode cX1_faultOf 50 = .ok (.lcmp, 1) := by decide +kernel
theorem dX1_faultOf_51 : decode cX1_faultOf 51 = .ok (.ifCond .ne 7, 3) := by decide +kernel
theorem dX1_faultOf_54 : decode cX1_faultOf 54 = .ok (.iconst 0, 1) := by decide +kernel
theorem dX1_faultOf_55 : decode cX1_faultOf 55 = .ok (.goto 4, 3) := by decide +kernel
theorem dX1_faultOf_58 : decode cX1_faultOf 58 = .ok (.iconst 4, 1) := by decide +kernel
theorem dX1_faultOf_59 : decode cX1_faultOf 59 = .ok (.ireturn, 1) := by decide +kernel
theorem dX1_meetsBySquares_0 : decode cX1_meetsBySquares 0 = .ok (.iconst 0, 1) := by decide +kernel
theorem dX1_meetsBySquares_1 : decode cX1_meetsBySquares 1 = .ok (.istore_n 2, 1) := by decide +kernel
theorem dX1_meetsBySquares_2 : decode cX1_meetsBySquares 2 = .ok (.iload_n 2, 1) := by decide +kernel
theorem dX1_meetsBySquares_3 : decode cX1_meetsBySquares 3 = .ok (.bipush 27, 2) := by decide +kernel
theorem dX1_meetsBySquares_5 : decode cX1_meetsBySquares 5 = .ok (.if_icmp .ge 76, 3) := by decide +kernel
theorem dX1_meetsBySquares_8 : decode cX1_meetsBySquares 8 = .ok (.bipush 16, 2) := by decide +kernel
theorem dX1_meetsBySquares_10 : decode cX1_meetsBySquares 10 = .ok (.iload_n 2, 1) := by decide +kernel
theorem dX1_meetsBySquares_11 : decode cX1_meetsBySquares 11 = .ok (.bipush 9, 2) := by decide +kernel
theorem dX1_meetsBySquares_13 : decode cX1_meetsBySquares 13 = .ok (.idiv, 1) := by decide +kernel
theorem dX1_meetsBySquares_14 : decode cX1_meetsBySquares 14 = .ok (.imul, 1) := by decide +kernel
theorem dX1_meetsBySquares_15 : decode cX1_meetsBySquares 15 = .ok (.iconst 4, 1) := by decide +kernel
theorem dX1_meetsBySquares_16 : decode cX1_meetsBySquares 16 = .ok (.iload_n 2, 1) := by decide +kernel
theorem dX1_meetsBySquares_17 : decode cX1_meetsBySquares 17 = .ok (.iconst 3, 1) := by decide +kernel
theorem dX1_meetsBySquares_18 : decode cX1_meetsBySquares 18 = .ok (.idiv, 1) := by decide +kernel
theorem dX1_meetsBySquares_19 : decode cX1_meetsBySquares 19 = .ok (.iconst 3, 1) := by decide +kernel
theorem dX1_meetsBySquares_20 : decode cX1_meetsBySquares 20 = .ok (.irem, 1) := by decide +kernel
theorem dX1_meetsBySquares_21 : decode cX1_meetsBySquares 21 = .ok (.imul, 1) := by decide +kernel
theorem dX1_meetsBySquares_22 : decode cX1_meetsBySquares 22 = .ok (.iadd, 1) := by decide +kernel
theorem dX1_meetsBySquares_23 : decode cX1_meetsBySquares 23 = .ok (.iload_n 2, 1) := by decide +kernel
theorem dX1_meetsBySquares_24 : decode cX1_meetsBySquares 24 = .ok (.iconst 3, 1) := by decide +kernel
theorem dX1_meetsBySquares_25 : decode cX1_meetsBySquares 25 = .ok (.irem, 1) := by decide +kernel
theorem dX1_meetsBySquares_26 : decode cX1_meetsBySquares 26 = .ok (.iadd, 1) := by decide +kernel
theorem dX1_meetsBySquares_27 : decode cX1_meetsBySquares 27 = .ok (.istore_n 3, 1) := by decide +kernel
theorem dX1_meetsBySquares_28 : decode cX1_meetsBySquares 28 = .ok (.getstatic 70, 3) := by decide +kernel
theorem dX1_meetsBySquares_31 : decode cX1_meetsBySquares 31 = .ok (.astore 4, 2) := by decide +kernel
theorem dX1_meetsBySquares_33 : decode cX1_meetsBySquares 33 = .ok (.aload 4, 2) := by decide +kernel
theorem dX1_meetsBySquares_35 : decode cX1_meetsBySquares 35 = .ok (.arraylength, 1) := by decide +kernel
theorem dX1_meetsBySquares_36 : decode cX1_meetsBySquares 36 = .ok (.istore 5, 2) := by decide +kernel
theorem dX1_meetsBySquares_38 : decode cX1_meetsBySquares 38 = .ok (.iconst 0, 1) := by decide +kernel
theorem dX1_meetsBySquares_39 : decode cX1_meetsBySquares 39 = .ok (.istore 6, 2) := by decide +kernel
theorem dX1_meetsBySquares_41 : decode cX1_meetsBySquares 41 = .ok (.iload 6, 2) := by decide +kernel
theorem dX1_meetsBySquares_43 : decode cX1_meetsBySquares 43 = .ok (.iload 5, 2) := by decide +kernel
theorem dX1_meetsBySquares_45 : decode cX1_meetsBySquares 45 = .ok (.if_icmp .ge 30, 3) := by decide +kernel
theorem dX1_meetsBySquares_48 : decode cX1_meetsBySquares 48 = .ok (.aload 4, 2) := by decide +kernel
theorem dX1_meetsBySquares_50 : decode cX1_meetsBySquares 50 = .ok (.iload 6, 2) := by decide +kernel
theorem dX1_meetsBySquares_52 : decode cX1_meetsBySquares 52 = .ok (.laload, 1) := by decide +kernel
theorem dX1_meetsBySquares_53 : decode cX1_meetsBySquares 53 = .ok (.lstore 7, 2) := by decide +kernel
theorem dX1_meetsBySquares_55 : decode cX1_meetsBySquares 55 = .ok (.lload_n 0, 1) := by decide +kernel
theorem dX1_meetsBySquares_56 : decode cX1_meetsBySquares 56 = .ok (.lload 7, 2) := by decide +kernel
theorem dX1_meetsBySquares_58 : decode cX1_meetsBySquares 58 = .ok (.iload_n 3, 1) := by decide +kernel
theorem dX1_meetsBySquares_59 : decode cX1_meetsBySquares 59 = .ok (.lshl, 1) := by decide +kernel
theorem dX1_meetsBySquares_60 : decode cX1_meetsBySquares 60 = .ok (.land, 1) := by decide +kernel
theorem dX1_meetsBySquares_61 : decode cX1_meetsBySquares 61 = .ok (.invokestatic 55, 3) := by decide +kernel
theorem dX1_meetsBySquares_64 : decode cX1_meetsBySquares 64 = .ok (.ifCond .ne 5, 3) := by decide +kernel
theorem dX1_meetsBySquares_67 : decode cX1_meetsBySquares 67 = .ok (.iconst 0, 1) := by decide +kernel
theorem dX1_meetsBySquares_68 : decode cX1_meetsBySquares 68 = .ok (.ireturn, 1) := by decide +kernel
theorem dX1_meetsBySquares_69 : decode cX1_meetsBySquares 69 = .ok (.iinc 6 1, 3) := by decide +kernel
theorem dX1_meetsBySquares_72 : decode cX1_meetsBySquares 72 = .ok (.goto (-31), 3) := by decide +kernel
theorem dX1_meetsBySquares_75 : decode cX1_meetsBySquares 75 = .ok (.iinc 2 1, 3) := by decide +kernel
theorem dX1_meetsBySquares_78 : decode cX1_meetsBySquares 78 = .ok (.goto (-76), 3) := by decide +kernel
theorem dX1_meetsBySquares_81 : decode cX1_meetsBySquares 81 = .ok (.iconst 1, 1) := by decide +kernel
theorem dX1_meetsBySquares_82 : decode cX1_meetsBySquares 82 = .ok (.ireturn, 1) := by decide +kernel
theorem dX1_hangs_0 : decode cX1_hangs 0 = .ok (.lload_n 0, 1) := by decide +kernel
theorem dX1_hangs_1 : decode cX1_hangs 1 = .ok (.lload_n 0, 1) := by decide +kernel
theorem dX1_hangs_2 : decode cX1_hangs 2 = .ok (.lneg, 1) := by decide +kernel
theorem dX1_hangs_3 : decode cX1_hangs 3 = .ok (.land, 1) := by decide +kernel
theorem dX1_hangs_4 : decode cX1_hangs 4 = .ok (.lload_n 0, 1) := by decide +kernel
theorem dX1_hangs_5 : decode cX1_hangs 5 = .ok (.invokestatic 66, 3) := by decide +kernel
theorem dX1_hangs_8 : decode cX1_hangs 8 = .ok (.lload_n 0, 1) := by decide +kernel
theorem dX1_hangs_9 : decode cX1_hangs 9 = .ok (.lcmp, 1) := by decide +kernel
theorem dX1_hangs_10 : decode cX1_hangs 10 = .ok (.ifCond .ne 7, 3) := by decide +kernel
theorem dX1_hangs_13 : decode cX1_hangs 13 = .ok (.iconst 1, 1) := by decide +kernel
theorem dX1_hangs_14 : decode cX1_hangs 14 = .ok (.goto 4, 3) := by decide +kernel
theorem dX1_hangs_17 : decode cX1_hangs 17 = .ok (.iconst 0, 1) := by decide +kernel
theorem dX1_hangs_18 : decode cX1_hangs 18 = .ok (.ireturn, 1) := by decide +kernel
theorem dX1_flood_0 : decode cX1_flood 0 = .ok (.lload_n 0, 1) := by decide +kernel
theorem dX1_flood_1 : decode cX1_flood 1 = .ok (.lload_n 2, 1) := by decide +kernel
theorem dX1_flood_2 : decode cX1_flood 2 = .ok (.land, 1) := by decide +kernel
theorem dX1_flood_3 : decode cX1_flood 3 = .ok (.lstore 4, 2) := by decide +kernel
theorem dX1_flood_5 : decode cX1_flood 5 = .ok (.iconst 0, 1) := by decide +kernel
theorem dX1_flood_6 : decode cX1_flood 6 = .ok (.istore 6, 2) := by decide +kernel
theorem dX1_flood_8 : decode cX1_flood 8 = .ok (.iload 6, 2) := by decide +kernel
theorem dX1_flood_10 : decode cX1_flood 10 = .ok (.bipush 64, 2) := by decide +kernel
theorem dX1_flood_12 : decode cX1_flood 12 = .ok (.if_icmp .ge 90, 3) := by decide +kernel
theorem dX1_flood_15 : decode cX1_flood 15 = .ok (.lload 4, 2) := by decide +kernel
theorem dX1_flood_17 : decode cX1_flood 17 = .ok (.ldc2_w 74, 3) := by decide +kernel
theorem dX1_flood_20 : decode cX1_flood 20 = .ok (.land, 1) := by decide +kernel
theorem dX1_flood_21 : decode cX1_flood 21 = .ok (.iconst 1, 1) := by decide +kernel
theorem dX1_flood_22 : decode cX1_flood 22 = .ok (.lshl, 1) := by decide +kernel
theorem dX1_flood_23 : decode cX1_flood 23 = .ok (.lload 4, 2) := by decide +kernel
theorem dX1_flood_25 : decode cX1_flood 25 = .ok (.ldc2_w 76, 3) := by decide +kernel
theorem dX1_flood_28 : decode cX1_flood 28 = .ok (.land, 1) := by decide +kernel
theorem dX1_flood_29 : decode cX1_flood 29 = .ok (.iconst 1, 1) := by decide +kernel
theorem dX1_flood_30 : decode cX1_flood 30 = .ok (.lushr, 1) := by decide +kernel
theorem dX1_flood_31 : decode cX1_flood 31 = .ok (.lor, 1) := by decide +kernel
theorem dX1_flood_32 : decode cX1_flood 32 = .ok (.lstore 7, 2) := by decide +kernel
theorem dX1_flood_34 : decode cX1_flood 34 = .ok (.lload 4, 2) := by decide +kernel
theorem dX1_flood_36 : decode cX1_flood 36 = .ok (.ldc2_w 78, 3) := by decide +kernel
theorem dX1_flood_39 : decode cX1_flood 39 = .ok (.land, 1) := by decide +kernel
theorem dX1_flood_40 : decode cX1_flood 40 = .ok (.iconst 4, 1) := by decide +kernel
theorem dX1_flood_41 : decode cX1_flood 41 = .ok (.lshl, 1) := by decide +kernel
theorem dX1_flood_42 : decode cX1_flood 42 = .ok (.lload 4, 2) := by decide +kernel
theorem dX1_flood_44 : decode cX1_flood 44 = .ok (.ldc2_w 80, 3) := by decide +kernel
theorem dX1_flood_47 : decode cX1_flood 47 = .ok (.land, 1) := by decide +kernel
theorem dX1_flood_48 : decode cX1_flood 48 = .ok (.iconst 4, 1) := by decide +kernel
theorem dX1_flood_49 : decode cX1_flood 49 = .ok (.lushr, 1) := by decide +kernel
theorem dX1_flood_50 : decode cX1_flood 50 = .ok (.lor, 1) := by decide +kernel
theorem dX1_flood_51 : decode cX1_flood 51 = .ok (.lstore 9, 2) := by decide +kernel
theorem dX1_flood_53 : decode cX1_flood 53 = .ok (.lload 4, 2) := by decide +kernel
theorem dX1_flood_55 : decode cX1_flood 55 = .ok (.bipush 16, 2) := by decide +kernel
theorem dX1_flood_57 : decode cX1_flood 57 = .ok (.lshl, 1) := by decide +kernel
theorem dX1_flood_58 : decode cX1_flood 58 = .ok (.lload 4, 2) := by decide +kernel
theorem dX1_flood_60 : decode cX1_flood 60 = .ok (.bipush 16, 2) := by decide +kernel
theorem dX1_flood_62 : decode cX1_flood 62 = .ok (.lushr, 1) := by decide +kernel
theorem dX1_flood_63 : decode cX1_flood 63 = .ok (.lor, 1) := by decide +kernel
theorem dX1_flood_64 : decode cX1_flood 64 = .ok (.lstore 11, 2) := by decide +kernel
theorem dX1_flood_66 : decode cX1_flood 66 = .ok (.lload 4, 2) := by decide +kernel
theorem dX1_flood_68 : decode cX1_flood 68 = .ok (.lload 7, 2) := by decide +kernel
theorem dX1_flood_70 : decode cX1_flood 70 = .ok (.lor, 1) := by decide +kernel
theorem dX1_flood_71 : decode cX1_flood 71 = .ok (.lload 9, 2) := by decide +kernel
theorem dX1_flood_73 : decode cX1_flood 73 = .ok (.lor, 1) := by decide +kernel
theorem dX1_flood_74 : decode cX1_flood 74 = .ok (.lload 11, 2) := by decide +kernel
theorem dX1_flood_76 : decode cX1_flood 76 = .ok (.lor, 1) := by decide +kernel
theorem dX1_flood_77 : decode cX1_flood 77 = .ok (.lload_n 2, 1) := by decide +kernel
theorem dX1_flood_78 : decode cX1_flood 78 = .ok (.land, 1) := by decide +kernel
theorem dX1_flood_79 : decode cX1_flood 79 = .ok (.lstore 13, 2) := by decide +kernel
theorem dX1_flood_81 : decode cX1_flood 81 = .ok (.lload 13, 2) := by decide +kernel
theorem dX1_flood_83 : decode cX1_flood 83 = .ok (.lload 4, 2) := by decide +kernel
theorem dX1_flood_85 : decode cX1_flood 85 = .ok (.lcmp, 1) := by decide +kernel
theorem dX1_flood_86 : decode cX1_flood 86 = .ok (.ifCond .ne 6, 3) := by decide +kernel
theorem dX1_flood_89 : decode cX1_flood 89 = .ok (.goto 13, 3) := by decide +kernel
theorem dX1_flood_92 : decode cX1_flood 92 = .ok (.lload 13, 2) := by decide +kernel
theorem dX1_flood_94 : decode cX1_flood 94 = .ok (.lstore 4, 2) := by decide +kernel
theorem dX1_flood_96 : decode cX1_flood 96 = .ok (.iinc 6 1, 3) := by decide +kernel
theorem dX1_flood_99 : decode cX1_flood 99 = .ok (.goto (-91), 3) := by decide +kernel
theorem dX1_flood_102 : decode cX1_flood 102 = .ok (.lload 4, 2) := by decide +kernel
theorem dX1_flood_104 : decode cX1_flood 104 = .ok (.lreturn, 1) := by decide +kernel
theorem dX2_init_0 : decode cX2_init 0 = .ok (.aload_n 0, 1) := by decide +kernel
theorem dX2_init_1 : decode cX2_init 1 = .ok (.invokespecial 1, 3) := by decide +kernel
theorem dX2_init_4 : decode cX2_init 4 = .ok (.aload_n 0, 1) := by decide +kernel
theorem dX2_init_5 : decode cX2_init 5 = .ok (.sipush 240, 3) := by decide +kernel
theorem dX2_init_8 : decode cX2_init 8 = .ok (.newarray .int, 2) := by decide +kernel
theorem dX2_init_10 : decode cX2_init 10 = .ok (.putfield 9, 3) := by decide +kernel
theorem dX2_init_13 : decode cX2_init 13 = .ok (.return_, 1) := by decide +kernel
theorem dX2_become_0 : decode cX2_become 0 = .ok (.aload_n 1, 1) := by decide +kernel
theorem dX2_become_1 : decode cX2_become 1 = .ok (.getfield 9, 3) := by decide +kernel
theorem dX2_become_4 : decode cX2_become 4 = .ok (.iconst 0, 1) := by decide +kernel
theorem dX2_become_5 : decode cX2_become 5 = .ok (.aload_n 0, 1) := by decide +kernel
theorem dX2_become_6 : decode cX2_become 6 = .ok (.getfield 9, 3) := by decide +kernel
theorem dX2_become_9 : decode cX2_become 9 = .ok (.iconst 0, 1) := by decide +kernel
theorem dX2_become_10 : decode cX2_become 10 = .ok (.sipush 240, 3) := by decide +kernel
theorem dX2_become_13 : decode cX2_become 13 = .ok (.invokestatic 15, 3) := by decide +kernel
theorem dX2_become_16 : decode cX2_become 16 = .ok (.return_, 1) := by decide +kernel
theorem dX2_mend_0 : decode cX2_mend 0 = .ok (.aload_n 0, 1) := by decide +kernel
theorem dX2_mend_1 : decode cX2_mend 1 = .ok (.getfield 9, 3) := by decide +kernel
theorem dX2_mend_4 : decode cX2_mend 4 = .ok (.iconst 0, 1) := by decide +kernel
theorem dX2_mend_5 : decode cX2_mend 5 = .ok (.invokestatic 21, 3) := by decide +kernel
theorem dX2_mend_8 : decode cX2_mend 8 = .ok (.return_, 1) := by decide +kernel
theorem dX2_isCut_0 : decode cX2_isCut 0 = .ok (.aload_n 0, 1) := by decide +kernel
theorem dX2_isCut_1 : decode cX2_isCut 1 = .ok (.getfield 9, 3) := by decide +kernel
theorem dX2_isCut_4 : decode cX2_isCut 4 = .ok (.iload_n 1, 1) := by decide +kernel
theorem dX2_isCut_5 : decode cX2_isCut 5 = .ok (.iaload, 1) := by decide +kernel
theorem dX2_isCut_6 : decode cX2_isCut 6 = .ok (.iload_n 2, 1) := by decide +kernel
theorem dX2_isCut_7 : decode cX2_isCut 7 = .ok (.ishr, 1) := by decide +kernel
theorem dX2_isCut_8 : decode cX2_isCut 8 = .ok (.iconst 1, 1) := by decide +kernel
theorem dX2_isCut_9 : decode cX2_isCut 9 = .ok (.iand, 1) := by decide +kernel
theorem dX2_isCut_10 : decode cX2_isCut 10 = .ok (.iconst 1, 1) := by decide +kernel
theorem dX2_isCut_11 : decode cX2_isCut 11 = .ok (.if_icmp .ne 7, 3) := by decide +kernel
theorem dX2_isCut_14 : decode cX2_isCut 14 = .ok (.iconst 1, 1) := by decide +kernel
theorem dX2_isCut_15 : decode cX2_isCut 15 = .ok (.goto 4, 3) := by decide +kernel
theorem dX2_isCut_18 : decode cX2_isCut 18 = .ok (.iconst 0, 1) := by decide +kernel
theorem dX2_isCut_19 : decode cX2_isCut 19 = .ok (.ireturn, 1) := by decide +kernel
theorem dX2_mark_0 : decode cX2_mark 0 = .ok (.iconst 1, 1) := by decide +kernel
theorem dX2_mark_1 : decode cX2_mark 1 = .ok (.iload_n 2, 1) := by decide +kernel
theorem dX2_mark_2 : decode cX2_mark 2 = .ok (.ishl, 1) := by decide +kernel
theorem dX2_mark_3 : decode cX2_mark 3 = .ok (.istore 4, 2) := by decide +kernel
theorem dX2_mark_5 : decode cX2_mark 5 = .ok (.aload_n 0, 1) := by decide +kernel
theorem dX2_mark_6 : decode cX2_mark 6 = .ok (.getfield 9, 3) := by decide +kernel
theorem dX2_mark_9 : decode cX2_mark 9 = .ok (.iload_n 1, 1) := by decide +kernel
theorem dX2_mark_10 : decode cX2_mark 10 = .ok (.iload_n 3, 1) := by decide +kernel
theorem dX2_mark_11 : decode cX2_mark 11 = .ok (.ifCond .eq 15, 3) := by decide +kernel
theorem dX2_mark_14 : decode cX2_mark 14 = .ok (.aload_n 0, 1) := by decide +kernel
theorem dX2_mark_15 : decode cX2_mark 15 = .ok (.getfield 9, 3) := by decide +kernel
theorem dX2_mark_18 : decode cX2_mark 18 = .ok (.iload_n 1, 1) := by decide +kernel
theorem dX2_mark_19 : decode cX2_mark 19 = .ok (.iaload, 1) := by decide +kernel
theorem dX2_mark_20 : decode cX2_mark 20 = .ok (.iload 4, 2) := by decide +kernel
theorem dX2_mark_22 : decode cX2_mark 22 = .ok (.ior, 1) := by decide +kernel
theorem dX2_mark_23 : decode cX2_mark 23 = .ok (.goto 14, 3) := by decide +kernel
theorem dX2_mark_26 : decode cX2_mark 26 = .ok (.aload_n 0, 1) := by decide +kernel
theorem dX2_mark_27 : decode cX2_mark 27 = .ok (.getfield 9, 3) := by decide +kernel
theorem dX2_mark_30 : decode cX2_mark 30 = .ok (.iload_n 1, 1) := by decide +kernel
theorem dX2_mark_31 : decode cX2_mark 31 = .ok (.iaload, 1) := by decide +kernel
theorem dX2_mark_32 : decode cX2_mark 32 = .ok (.iload 4, 2) := by decide +kernel
theorem dX2_mark_34 : decode cX2_mark 34 = .ok (.iconst (-1), 1) := by decide +kernel
theorem dX2_mark_35 : decode cX2_mark 35 = .ok (.ixor, 1) := by decide +kernel
theorem dX2_mark_36 : decode cX2_mark 36 = .ok (.iand, 1) := by decide +kernel
theorem dX2_mark_37 : decode cX2_mark 37 = .ok (.iastore, 1) := by decide +kernel
theorem dX2_mark_38 : decode cX2_mark 38 = .ok (.return_, 1) := by decide +kernel
theorem dX2_marks_0 : decode cX2_marks 0 = .ok (.iconst 0, 1) := by decide +kernel
theorem dX2_marks_1 : decode cX2_marks 1 = .ok (.istore_n 1, 1) := by decide +kernel
theorem dX2_marks_2 : decode cX2_marks 2 = .ok (.iconst 0, 1) := by decide +kernel
theorem dX2_marks_3 : decode cX2_marks 3 = .ok (.istore_n 2, 1) := by decide +kernel
theorem dX2_marks_4 : decode cX2_marks 4 = .ok (.iload_n 2, 1) := by decide +kernel
theorem dX2_marks_5 : decode cX2_marks 5 = .ok (.sipush 240, 3) := by decide +kernel
theorem dX2_marks_8 : decode cX2_marks 8 = .ok (.if_icmp .ge 21, 3) := by decide +kernel
theorem dX2_marks_11 : decode cX2_marks 11 = .ok (.iload_n 1, 1) := by decide +kernel
theorem dX2_marks_12 : decode cX2_marks 12 = .ok (.aload_n 0, 1) := by decide +kernel
theorem dX2_marks_13 : decode cX2_marks 13 = .ok (.getfield 9, 3) := by decide +kernel
theorem dX2_marks_16 : decode cX2_marks 16 = .ok (.iload_n 2, 1) := by decide +kernel
theorem dX2_marks_17 : decode cX2_marks 17 = .ok (.iaload, 1) := by decide +kernel
theorem dX2_marks_18 : decode cX2_marks 18 = .ok (.invokestatic 27, 3) := by decide +kernel
theorem dX2_marks_21 : decode cX2_marks 21 = .ok (.iadd, 1) := by decide +kernel
theorem dX2_marks_22 : decode cX2_marks 22 = .ok (.istore_n 1, 1) := by decide +kernel
theorem dX2_marks_23 : decode cX2_marks 23 = .ok (.iinc 2 1, 3) := by decide +kernel
theorem dX2_marks_26 : decode cX2_marks 26 = .ok (.goto (-22), 3) := by decide +kernel
theorem dX2_marks_29 : decode cX2_marks 29 = .ok (.iload_n 1, 1) := by decide +kernel
theorem dX2_marks_30 : decode cX2_marks 30 = .ok (.ireturn, 1) := by decide +kernel
theorem dX3_init_0 : decode cX3_init 0 = .ok (.aload_n 0, 1) := by decide +kernel
theorem dX3_init_1 : decode cX3_init 1 = .ok (.invokespecial 1, 3) := by decide +kernel
theorem dX3_init_4 : decode cX3_init 4 = .ok (.aload_n 0, 1) := by decide +kernel
theorem dX3_init_5 : decode cX3_init 5 = .ok (.sipush 360, 3) := by decide +kernel
theorem dX3_init_8 : decode cX3_init 8 = .ok (.newarray .int, 2) := by decide +kernel
theorem dX3_init_10 : decode cX3_init 10 = .ok (.putfield 11, 3) := by decide +kernel
theorem dX3_init_13 : decode cX3_init 13 = .ok (.aload_n 0, 1) := by decide +kernel
theorem dX3_init_14 : decode cX3_init 14 = .ok (.bipush 6, 2) := by decide +kernel
theorem dX3_init_16 : decode cX3_init 16 = .ok (.newarray .int, 2) := by decide +kernel
theorem dX3_init_18 : decode cX3_init 18 = .ok (.putfield 15, 3) := by decide +kernel
theorem dX3_init_21 : decode cX3_init 21 = .ok (.aload_n 0, 1) := by decide +kernel
theorem dX3_init_22 : decode cX3_init 22 = .ok (.sipush 240, 3) := by decide +kernel
theorem dX3_init_25 : decode cX3_init 25 = .ok (.newarray .int, 2) := by decide +kernel
theorem dX3_init_27 : decode cX3_init 27 = .ok (.putfield 18, 3) := by decide +kernel
theorem dX3_init_30 : decode cX3_init 30 = .ok (.aload_n 0, 1) := by decide +kernel
theorem dX3_init_31 : decode cX3_init 31 = .ok (.iconst 0, 1) := by decide +kernel
theorem dX3_init_32 : decode cX3_init 32 = .ok (.putfield 21, 3) := by decide +kernel
theorem dX3_init_35 : decode cX3_init 35 = .ok (.aload_n 0, 1) := by decide +kernel
theorem dX3_init_36 : decode cX3_init 36 = .ok (.getfield 11, 3) := by decide +kernel
theorem dX3_init_39 : decode cX3_init 39 = .ok (.iconst 3, 1) := by decide +kernel
theorem dX3_init_40 : decode cX3_init 40 = .ok (.iconst 4, 1) := by decide +kernel
theorem dX3_init_41 : decode cX3_init 41 = .ok (.iastore, 1) := by decide +kernel
theorem dX3_init_42 : decode cX3_init 42 = .ok (.aload_n 0, 1) := by decide +kernel
theorem dX3_init_43 : decode cX3_init 43 = .ok (.getfield 11, 3) := by decide +kernel
theorem dX3_init_46 : decode cX3_init 46 = .ok (.iconst 4, 1) := by decide +kernel
theorem dX3_init_47 : decode cX3_init 47 = .ok (.iconst 0, 1) := by decide +kernel
theorem dX3_init_48 : decode cX3_init 48 = .ok (.iastore, 1) := by decide +kernel
theorem dX3_init_49 : decode cX3_init 49 = .ok (.aload_n 0, 1) := by decide +kernel
theorem dX3_init_50 : decode cX3_init 50 = .ok (.getfield 11, 3) := by decide +kernel
theorem dX3_init_53 : decode cX3_init 53 = .ok (.iconst 5, 1) := by decide +kernel
theorem dX3_init_54 : decode cX3_init 54 = .ok (.iconst 2, 1) := by decide +kernel
theorem dX3_init_55 : decode cX3_init 55 = .ok (.iastore, 1) := by decide +kernel
theorem dX3_init_56 : decode cX3_init 56 = .ok (.return_, 1) := by decide +kernel
theorem dX3_run_0 : decode cX3_run 0 = .ok (.aload_n 2, 1) := by decide +kernel
theorem dX3_run_1 : decode cX3_run 1 = .ok (.aload_n 1, 1) := by decide +kernel
theorem dX3_run_2 : decode cX3_run 2 = .ok (.invokevirtual 25, 3) := by decide +kernel
theorem dX3_run_5 : decode cX3_run 5 = .ok (.aload_n 0, 1) := by decide +kernel
theorem dX3_run_6 : decode cX3_run 6 = .ok (.aload_n 1, 1) := by decide +kernel
theorem dX3_run_7 : decode cX3_run 7 = .ok (.invokevirtual 31, 3) := by decide +kernel
theorem dX3_run_10 : decode cX3_run 10 = .ok (.putfield 21, 3) := by decide +kernel
theorem dX3_run_13 : decode cX3_run 13 = .ok (.aload_n 2, 1) := by decide +kernel
theorem dX3_run_14 : decode cX3_run 14 = .ok (.invokevirtual 35, 3) := by decide +kernel
theorem dX3_run_17 : decode cX3_run 17 = .ok (.ifCond .ne 5, 3) := by decide +kernel
theorem dX3_run_20 : decode cX3_run 20 = .ok (.iconst 1, 1) := by decide +kernel
theorem dX3_run_21 : decode cX3_run 21 = .ok (.ireturn, 1) := by decide +kernel
theorem dX3_run_22 : decode cX3_run 22 = .ok (.aload_n 0, 1) := by decide +kernel
theorem dX3_run_23 : decode cX3_run 23 = .ok (.aload_n 1, 1) := by decide +kernel
theorem dX3_run_24 : decode cX3_run 24 = .ok (.aload_n 2, 1) := by decide +kernel
theorem dX3_run_25 : decode cX3_run 25 = .ok (.invokevirtual 39, 3) := by decide +kernel
theorem dX3_run_28 : decode cX3_run 28 = .ok (.aload_n 0, 1) := by decide +kernel
theorem dX3_run_29 : decode cX3_run 29 = .ok (.aload_n 1, 1) := by decide +kernel
theorem dX3_run_30 : decode cX3_run 30 = .ok (.aload_n 2, 1) := by decide +kernel
theorem dX3_run_31 : decode cX3_run 31 = .ok (.invokevirtual 43, 3) := by decide +kernel
theorem dX3_run_34 : decode cX3_run 34 = .ok (.ifCond .ne 5, 3) := by decide +kernel
theorem dX3_run_37 : decode cX3_run 37 = .ok (.iconst 2, 1) := by decide +kernel
theorem dX3_run_38 : decode cX3_run 38 = .ok (.ireturn, 1) := by decide +kernel
theorem dX3_run_39 : decode cX3_run 39 = .ok (.aload_n 0, 1) := by decide +kernel
theorem dX3_run_40 : decode cX3_run 40 = .ok (.invokevirtual 47, 3) := by decide +kernel
theorem dX3_run_43 : decode cX3_run 43 = .ok (.ifCond .eq 7, 3) := by decide +kernel
theorem dX3_run_46 : decode cX3_run 46 = .ok (.iconst 3, 1) := by decide +kernel
theorem dX3_run_47 : decode cX3_run 47 = .ok (.goto 4, 3) := by decide +kernel
theorem dX3_run_50 : decode cX3_run 50 = .ok (.iconst 0, 1) := by decide +kernel
theorem dX3_run_51 : decode cX3_run 51 = .ok (.ireturn, 1) := by decide +kernel
theorem dX3_poseOf_0 : decode cX3_poseOf 0 = .ok (.aload_n 0, 1) := by decide +kernel
theorem dX3_poseOf_1 : decode cX3_poseOf 1 = .ok (.getfield 11, 3) := by decide +kernel
theorem dX3_poseOf_4 : decode cX3_poseOf 4 = .ok (.bipush 6, 2) := by decide +kernel
theorem dX3_poseOf_6 : decode cX3_poseOf 6 = .ok (.iload_n 1, 1) := by decide +kernel
theorem dX3_poseOf_7 : decode cX3_poseOf 7 = .ok (.imul, 1) := by decide +kernel
theorem dX3_poseOf_8 : decode cX3_poseOf 8 = .ok (.iload_n 2, 1) := by decide +kernel
theorem dX3_poseOf_9 : decode cX3_poseOf 9 = .ok (.iadd, 1) := by decide +kernel
theorem dX3_poseOf_10 : decode cX3_poseOf 10 = .ok (.iaload, 1) := by decide +kernel
theorem dX3_poseOf_11 : decode cX3_poseOf 11 = .ok (.ireturn, 1) := by decide +kernel
theorem dX3_layAll_0 : decode cX3_layAll 0 = .ok (.iconst 1, 1) := by decide +kernel
theorem dX3_layAll_1 : decode cX3_layAll 1 = .ok (.istore_n 3, 1) := by decide +kernel
theorem dX3_layAll_2 : decode cX3_layAll 2 = .ok (.iload_n 3, 1) := by decide +kernel
theorem dX3_layAll_3 : decode cX3_layAll 3 = .ok (.aload_n 0, 1) := by decide +kernel
theorem dX3_layAll_4 : decode cX3_layAll 4 = .ok (.getfield 21, 3) := by decide +kernel
theorem dX3_layAll_7 : decode cX3_layAll 7 = .ok (.if_icmp .ge 69, 3) := by decide +kernel
theorem dX3_layAll_10 : decode cX3_layAll 10 = .ok (.aload_n 2, 1) := by decide +kernel
theorem dX3_layAll_11 : decode cX3_layAll 11 = .ok (.iload_n 3, 1) := by decide +kernel
theorem dX3_layAll_12 : decode cX3_layAll 12 = .ok (.invokevirtual 50, 3) := by decide +kernel
theorem dX3_layAll_15 : decode cX3_layAll 15 = .ok (.istore 4, 2) := by decide +kernel
theorem dX3_layAll_17 : decode cX3_layAll 17 = .ok (.aload_n 2, 1) := by decide +kernel
theorem dX3_layAll_18 : decode cX3_layAll 18 = .ok (.iload 4, 2) := by decide +kernel
theorem dX3_layAll_20 : decode cX3_layAll 20 = .ok (.invokevirtual 54, 3) := by decide +kernel
theorem dX3_layAll_23 : decode cX3_layAll 23 = .ok (.istore 5, 2) := by decide +kernel
theorem dX3_layAll_25 : decode cX3_layAll 25 = .ok (.aload_n 2, 1) := by decide +kernel
theorem dX3_layAll_26 : decode cX3_layAll 26 = .ok (.iload 4, 2) := by decide +kernel
theorem dX3_layAll_28 : decode cX3_layAll 28 = .ok (.invokevirtual 57, 3) := by decide +kernel
theorem dX3_layAll_31 : decode cX3_layAll 31 = .ok (.istore 6, 2) := by decide +kernel
theorem dX3_layAll_33 : decode cX3_layAll 33 = .ok (.aload_n 0, 1) := by decide +kernel
theorem dX3_layAll_34 : decode cX3_layAll 34 = .ok (.iload 5, 2) := by decide +kernel
theorem dX3_layAll_36 : decode cX3_layAll 36 = .ok (.iload 6, 2) := by decide +kernel
theorem dX3_layAll_38 : decode cX3_layAll 38 = .ok (.aload_n 1, 1) := by decide +kernel
theorem dX3_layAll_39 : decode cX3_layAll 39 = .ok (.iload 5, 2) := by decide +kernel
theorem dX3_layAll_41 : decode cX3_layAll 41 = .ok (.iload 6, 2) := by decide +kernel
theorem dX3_layAll_43 : decode cX3_layAll 43 = .ok (.invokevirtual 60, 3) := by decide +kernel
theorem dX3_layAll_46 : decode cX3_layAll 46 = .ok (.iconst 2, 1) := by decide +kernel
theorem dX3_layAll_47 : decode cX3_layAll 47 = .ok (.isub, 1) := by decide +kernel
theorem dX3_layAll_48 : decode cX3_layAll 48 = .ok (.invokevirtual 64, 3) := by decide +kernel
theorem dX3_layAll_51 : decode cX3_layAll 51 = .ok (.aload_n 0, 1) := by decide +kernel
theorem dX3_layAll_52 : decode cX3_layAll 52 = .ok (.getfield 15, 3) := by decide +kernel
theorem dX3_layAll_55 : decode cX3_layAll 55 = .ok (.iconst 0, 1) := by decide +kernel
theorem dX3_layAll_56 : decode cX3_layAll 56 = .ok (.aload_n 0, 1) := by decide +kernel
theorem dX3_layAll_57 : decode cX3_layAll 57 = .ok (.getfield 11, 3) := by decide +kernel
theorem dX3_layAll_60 : decode cX3_layAll 60 = .ok (.bipush 6, 2) := by decide +kernel
theorem dX3_layAll_62 : decode cX3_layAll 62 = .ok (.iload 4, 2) := by decide +kernel
theorem dX3_layAll_64 : decode cX3_layAll 64 = .ok (.imul, 1) := by decide +kernel
theorem dX3_layAll_65 : decode cX3_layAll 65 = .ok (.bipush 6, 2) := by decide +kernel
theorem dX3_layAll_67 : decode cX3_layAll 67 = .ok (.invokestatic 68, 3) := by decide +kernel
theorem dX3_layAll_70 : decode cX3_layAll 70 = .ok (.iinc 3 1, 3) := by decide +kernel
theorem dX3_layAll_73 : decode cX3_layAll 73 = .ok (.goto (-71), 3) := by decide +kernel
theorem dX3_layAll_76 : decode cX3_layAll 76 = .ok (.return_, 1) := by decide +kernel
theorem dX3_heading_0 : decode cX3_heading 0 = .ok (.aload_n 0, 1) := by decide +kernel
theorem dX3_heading_1 : decode cX3_heading 1 = .ok (.iload_n 1, 1) := by decide +kernel
theorem dX3_heading_2 : decode cX3_heading 2 = .ok (.iload_n 2, 1) := by decide +kernel
theorem dX3_heading_3 : decode cX3_heading 3 = .ok (.iconst 1, 1) := by decide +kernel
theorem dX3_heading_4 : decode cX3_heading 4 = .ok (.iand, 1) := by decide +kernel
theorem dX3_heading_5 : decode cX3_heading 5 = .ok (.ifCond .ne 7, 3) := by decide +kernel
theorem dX3_heading_8 : decode cX3_heading 8 = .ok (.iconst 4, 1) := by decide +kernel
theorem dX3_heading_9 : decode cX3_heading 9 = .ok (.goto 4, 3) := by decide +kernel
theorem dX3_heading_12 : decode cX3_heading 12 = .ok (.iconst 5, 1) := by decide +kernel
theorem dX3_heading_13 : decode cX3_heading 13 = .ok (.invokevirtual 74, 3) := by decide +kernel
theorem dX3_heading_16 : decode cX3_heading 16 = .ok (.istore_n 3, 1) := by decide +kernel
theorem dX3_heading_17 : decode cX3_heading 17 = .ok (.iload_n 2, 1) := by decide +kernel
theorem dX3_heading_18 : decode cX3_heading 18 = .ok (.iconst 2, 1) := by decide +kernel
theorem dX3_heading_19 : decode cX3_heading 19 = .ok (.if_icmp .ge 7, 3) := by decide +kernel
theorem dX3_heading_22 : decode cX3_heading 22 = .ok (.iload_n 3, 1) := by decide +kernel
theorem dX3_heading_23 : decode cX3_heading 23 = .ok (.goto 7, 3) := by decide +kernel
theorem dX3_heading_26 : decode cX3_heading 26 = .ok (.iload_n 3, 1) := by decide +kernel
theorem dX3_heading_27 : decode cX3_heading 27 = .ok (.invokestatic 77, 3) := by decide +kernel
theorem dX3_heading_30 : decode cX3_heading 30 = .ok (.ireturn, 1) := by decide +kernel
theorem dX3_cross_0 : decode cX3_cross 0 = .ok (.aload_n 0, 1) := by decide +kernel
theorem dX3_cross_1 : decode cX3_cross 1 = .ok (.iload_n 1, 1) := by decide +kernel
theorem dX3_cross_2 : decode cX3_cross 2 = .ok (.iconst 3, 1) := by decide +kernel
theorem dX3_cross_3 : decode cX3_cross 3 = .ok (.invokevirtual 74, 3) := by decide +kernel
theorem dX3_cross_6 : decode cX3_cross 6 = .ok (.istore 4, 2) := by decide +kernel
theorem dX3_cross_8 : decode cX3_cross 8 = .ok (.aload_n 0, 1) := by decide +kernel
theorem dX3_cross_9 : decode cX3_cross 9 = .ok (.iload_n 1, 1) := by decide +kernel
theorem dX3_cross_10 : decode cX3_cross 10 = .ok (.iload_n 2, 1) := by decide +kernel
theorem dX3_cross_11 : decode cX3_cross 11 = .ok (.invokevirtual 82, 3) := by decide +kernel
theorem dX3_cross_14 : decode cX3_cross 14 = .ok (.istore 5, 2) := by decide +kernel
theorem dX3_cross_16 : decode cX3_cross 16 = .ok (.iload 5, 2) := by decide +kernel
theorem dX3_cross_18 : decode cX3_cross 18 = .ok (.istore 6, 2) := by decide +kernel
theorem dX3_cross_20 : decode cX3_cross 20 = .ok (.iload 4, 2) := by decide +kernel
theorem dX3_cross_22 : decode cX3_cross 22 = .ok (.istore 7, 2) := by decide +kernel
theorem dX3_cross_24 : decode cX3_cross 24 = .ok (.iload_n 3, 1) := by decide +kernel
theorem dX3_cross_25 : decode cX3_cross 25 = .ok (.iconst 1, 1) := by decide +kernel
theorem dX3_cross_26 : decode cX3_cross 26 = .ok (.if_icmp .ne 17, 3) := by decide +kernel
theorem dX3_cross_29 : decode cX3_cross 29 = .ok (.iload 4, 2) := by decide +kernel
theorem dX3_cross_31 : decode cX3_cross 31 = .ok (.invokestatic 77, 3) := by decide +kernel
theorem dX3_cross_34 : decode cX3_cross 34 = .ok (.istore 6, 2) := by decide +kernel
theorem dX3_cross_36 : decode cX3_cross 36 = .ok (.iload 5, 2) := by decide +kernel
theorem dX3_cross_38 : decode cX3_cross 38 = .ok (.istore 7, 2) := by decide +kernel
theorem dX3_cross_40 : decode cX3_cross 40 = .ok (.goto 19, 3) := by decide +kernel
theorem dX3_cross_43 : decode cX3_cross 43 = .ok (.iload_n 3, 1) := by decide +kernel
theorem dX3_cross_44 : decode cX3_cross 44 = .ok (.iconst (-1), 1) := by decide +kernel
theorem dX3_cross_45 : decode cX3_cross 45 = .ok (.if_icmp .ne 14, 3) := by decide +kernel
theorem dX3_cross_48 : decode cX3_cross 48 = .ok (.iload 4, 2) := by decide +kernel
theorem dX3_cross_50 : decode cX3_cross 50 = .ok (.istore 6, 2) := by decide +kernel
theorem dX3_cross_52 : decode cX3_cross 52 = .ok (.iload 5, 2) := by decide +kernel
theorem dX3_cross_54 : decode cX3_cross 54 = .ok (.invokestatic 77, 3) := by decide +kernel
theorem dX3_cross_57 : decode cX3_cross 57 = .ok (.istore 7, 2) := by decide +kernel
theorem dX3_cross_59 : decode cX3_cross 59 = .ok (.aload_n 0, 1) := by decide +kernel
theorem dX3_cross_60 : decode cX3_cross 60 = .ok (.getfield 11, 3) := by decide +kernel
theorem dX3_cross_63 : decode cX3_cross 63 = .ok (.bipush 6, 2) := by decide +kernel
theorem dX3_cross_65 : decode cX3_cross 65 = .ok (.iload_n 1, 1) := by decide +kernel
theorem dX3_cross_66 : decode cX3_cross 66 = .ok (.imul, 1) := by decide +kernel
theorem dX3_cross_67 : decode cX3_cross 67 = .ok (.aload_n 0, 1) := by decide +kernel
theorem dX3_cross_68 : decode cX3_cross 68 = .ok (.getfield 15, 3) := by decide +kernel
theorem dX3_cross_71 : decode cX3_cross 71 = .ok (.iconst 0, 1) := by decide +kernel
theorem dX3_cross_72 : decode cX3_cross 72 = .ok (.bipush 6, 2) := by decide +kernel
theorem dX3_cross_74 : decode cX3_cross 74 = .ok (.invokestatic 68, 3) := by decide +kernel
theorem dX3_cross_77 : decode cX3_cross 77 = .ok (.iconst 0, 1) := by decide +kernel
theorem dX3_cross_78 : decode cX3_cross 78 = .ok (.istore 8, 2) := by decide +kernel
theorem dX3_cross_80 : decode cX3_cross 80 = .ok (.iload 8, 2) := by decide +kernel
theorem dX3_cross_82 : decode cX3_cross 82 = .ok (.iconst 3, 1) := by decide +kernel
theorem dX3_cross_83 : decode cX3_cross 83 = .ok (.if_icmp .ge 34, 3) := by decide +kernel
theorem dX3_cross_86 : decode cX3_cross 86 = .ok (.aload_n 0, 1) := by decide +kernel
theorem dX3_cross_87 : decode cX3_cross 87 = .ok (.getfield 15, 3) := by decide +kernel
theorem dX3_cross_90 : decode cX3_cross 90 = .ok (.iload 8, 2) := by decide +kernel
theorem dX3_cross_92 : decode cX3_cross 92 = .ok (.dup2, 1) := by decide +kernel
theorem dX3_cross_93 : decode cX3_cross 93 = .ok (.iaload, 1) := by decide +kernel
theorem dX3_cross_94 : decode cX3_cross 94 = .ok (.iload 5, 2) := by decide +kernel
theorem dX3_cross_96 : decode cX3_cross 96 = .ok (.iload 8, 2) := by decide +kernel
theorem dX3_cross_98 : decode cX3_cross 98 = .ok (.invokestatic 85, 3) := by decide +kernel
theorem dX3_cross_101 : decode cX3_cross 101 = .ok (.iload 6, 2) := by decide +kernel
theorem dX3_cross_103 : decode cX3_cross 103 = .ok (.iload 8, 2) := by decide +kernel
theorem dX3_cross_105 : decode cX3_cross 105 = .ok (.invokestatic 85, 3) := by decide +kernel
theorem dX3_cross_108 : decode cX3_cross 108 = .ok (.iadd, 1) := by decide +kernel
theorem dX3_cross_109 : decode cX3_cross 109 = .ok (.iadd, 1) := by decide +kernel
theorem dX3_cross_110 : decode cX3_cross 110 = .ok (.iastore, 1) := by decide +kernel
theorem dX3_cross_111 : decode cX3_cross 111 = .ok (.iinc 8 1, 3) := by decide +kernel
theorem dX3_cross_114 : decode cX3_cross 114 = .ok (.goto (-34), 3) := by decide +kernel
theorem dX3_cross_117 : decode cX3_cross 117 = .ok (.aload_n 0, 1) := by decide +kernel
theorem dX3_cross_118 : decode cX3_cross 118 = .ok (.getfield 15, 3) := by decide +kernel
theorem dX3_cross_121 : decode cX3_cross 121 = .ok (.iconst 3, 1) := by decide +kernel
theorem dX3_cross_122 : decode cX3_cross 122 = .ok (.iload 7, 2) := by decide +kernel
theorem dX3_cross_124 : decode cX3_cross 124 = .ok (.iastore, 1) := by decide +kernel
theorem dX3_cross_125 : decode cX3_cross 125 = .ok (.aload_n 0, 1) := by decide +kernel
theorem dX3_cross_126 : decode cX3_cross 126 = .ok (.getfield 15, 3) := by decide +kernel
theorem dX3_cross_129 : decode cX3_cross 129 = .ok (.iload_n 2, 1) := by decide +kernel
theorem dX3_cross_130 : decode cX3_cross 130 = .ok (.iconst 1, 1) := by decide +kernel
theorem dX3_cross_131 : decode cX3_cross 131 = .ok (.iand, 1) := by decide +kernel
theorem dX3_cross_132 : decode cX3_cross 132 = .ok (.ifCond .ne 7, 3) := by decide +kernel
theorem dX3_cross_135 : decode cX3_cross 135 = .ok (.iconst 4, 1) := by decide +kernel
theorem dX3_cross_136 : decode cX3_cross 136 = .ok (.goto 4, 3) := by decide +kernel
theorem dX3_cross_139 : decode cX3_cross 139 = .ok (.iconst 5, 1) := by decide +kernel
theorem dX3_cross_140 : decode cX3_cross 140 = .ok (.iload_n 2, 1) := by decide +kernel
theorem dX3_cross_141 : decode cX3_cross 141 = .ok (.iconst 2, 1) := by decide +kernel
theorem dX3_cross_142 : decode cX3_cross 142 = .ok (.if_icmp .ge 8, 3) := by decide +kernel
theorem dX3_cross_145 : decode cX3_cross 145 = .ok (.iload 6, 2) := by decide +kernel
theorem dX3_cross_147 : decode cX3_cross 147 = .ok (.goto 8, 3) := by decide +kernel
theorem dX3_cross_150 : decode cX3_cross 150 = .ok (.iload 6, 2) := by decide +kernel
theorem dX3_cross_152 : decode cX3_cross 152 = .ok (.invokestatic 77, 3) := by decide +kernel
theorem dX3_cross_155 : decode cX3_cross 155 = .ok (.iastore, 1) := by decide +kernel
theorem dX3_cross_156 : decode cX3_cross 156 = .ok (.return_, 1) := by decide +kernel
theorem dX3_agrees_0 : decode cX3_agrees 0 = .ok (.iconst 0, 1) := by decide +kernel
theorem dX3_agrees_1 : decode cX3_agrees 1 = .ok (.istore_n 3, 1) := by decide +kernel
theorem dX3_agrees_2 : decode cX3_agrees 2 = .ok (.iload_n 3, 1) := by decide +kernel
theorem dX3_agrees_3 : decode cX3_agrees 3 = .ok (.aload_n 0, 1) := by decide +kernel
theorem dX3_agrees_4 : decode cX3_agrees 4 = .ok (.getfield 21, 3) := by decide +kernel
theorem dX3_agrees_7 : decode cX3_agrees 7 = .ok (.if_icmp .ge 65, 3) := by decide +kernel
theorem dX3_agrees_10 : decode cX3_agrees 10 = .ok (.iconst 0, 1) := by decide +kernel
theorem dX3_agrees_11 : decode cX3_agrees 11 = .ok (.istore 4, 2) := by decide +kernel
theorem dX3_agrees_13 : decode cX3_agrees 13 = .ok (.iload 4, 2) := by decide +kernel
theorem dX3_agrees_15 : decode cX3_agrees 15 = .ok (.iconst 2, 1) := by decide +kernel
theorem dX3_agrees_16 : decode cX3_agrees 16 = .ok (.if_icmp .ge 50, 3) := by decide +kernel
theorem dX3_agrees_19 : decode cX3_agrees 19 = .ok (.aload_n 2, 1) := by decide +kernel
theorem dX3_agrees_20 : decode cX3_agrees 20 = .ok (.iload_n 3, 1) := by decide +kernel
theorem dX3_agrees_21 : decode cX3_agrees 21 = .ok (.iload 4, 2) := by decide +kernel
theorem dX3_agrees_23 : decode cX3_agrees 23 = .ok (.invokevirtual 88, 3) := by decide +kernel
theorem dX3_agrees_26 : decode cX3_agrees 26 = .ok (.istore 5, 2) := by decide +kernel
theorem dX3_agrees_28 : decode cX3_agrees 28 = .ok (.iload 5, 2) := by decide +kernel
theorem dX3_agrees_30 : decode cX3_agrees 30 = .ok (.ifCond .lt 30, 3) := by decide +kernel
theorem dX3_agrees_33 : decode cX3_agrees 33 = .ok (.aload_n 0, 1) := by decide +kernel
theorem dX3_agrees_34 : decode cX3_agrees 34 = .ok (.iload_n 3, 1) := by decide +kernel
theorem dX3_agrees_35 : decode cX3_agrees 35 = .ok (.iload 4, 2) := by decide +kernel
theorem dX3_agrees_37 : decode cX3_agrees 37 = .ok (.aload_n 1, 1) := by decide +kernel
theorem dX3_agrees_38 : decode cX3_agrees 38 = .ok (.iload_n 3, 1) := by decide +kernel
theorem dX3_agrees_39 : decode cX3_agrees 39 = .ok (.iload 4, 2) := by decide +kernel
theorem dX3_agrees_41 : decode cX3_agrees 41 = .ok (.invokevirtual 60, 3) := by decide +kernel
theorem dX3_agrees_44 : decode cX3_agrees 44 = .ok (.iconst 2, 1) := by decide +kernel
theorem dX3_agrees_45 : decode cX3_agrees 45 = .ok (.isub, 1) := by decide +kernel
theorem dX3_agrees_46 : decode cX3_agrees 46 = .ok (.invokevirtual 64, 3) := by decide +kernel
theorem dX3_agrees_49 : decode cX3_agrees 49 = .ok (.aload_n 0, 1) := by decide +kernel
theorem dX3_agrees_50 : decode cX3_agrees 50 = .ok (.iload 5, 2) := by decide +kernel
theorem dX3_agrees_52 : decode cX3_agrees 52 = .ok (.invokevirtual 91, 3) := by decide +kernel
theorem dX3_agrees_55 : decode cX3_agrees 55 = .ok (.ifCond .ne 5, 3) := by decide +kernel
theorem dX3_agrees_58 : decode cX3_agrees 58 = .ok (.iconst 0, 1) := by decide +kernel
theorem dX3_agrees_59 : decode cX3_agrees 59 = .ok (.ireturn, 1) := by decide +kernel
theorem dX3_agrees_60 : decode cX3_agrees 60 = .ok (.iinc 4 1, 3) := by decide +kernel
theorem dX3_agrees_63 : decode cX3_agrees 63 = .ok (.goto (-50), 3) := by decide +kernel
theorem dX3_agrees_66 : decode cX3_agrees 66 = .ok (.iinc 3 1, 3) := by decide +kernel
theorem dX3_agrees_69 : decode cX3_agrees 69 = .ok (.goto (-67), 3) := by decide +kernel
theorem dX3_agrees_72 : decode cX3_agrees 72 = .ok (.iconst 1, 1) := by decide +kernel
theorem dX3_agrees_73 : decode cX3_agrees 73 = .ok (.ireturn, 1) := by decide +kernel
theorem dX3_liesBeside_0 : decode cX3_liesBeside 0 = .ok (.iconst 0, 1) := by decide +kernel
theorem dX3_liesBeside_1 : decode cX3_liesBeside 1 = .ok (.istore_n 2, 1) := by decide +kernel
theorem dX3_liesBeside_2 : decode cX3_liesBeside 2 = .ok (.iload_n 2, 1) := by decide +kernel
theorem dX3_liesBeside_3 : decode cX3_liesBeside 3 = .ok (.bipush 6, 2) := by decide +kernel
theorem dX3_liesBeside_5 : decode cX3_liesBeside 5 = .ok (.if_icmp .ge 26, 3) := by decide +kernel
theorem dX3_liesBeside_8 : decode cX3_liesBeside 8 = .ok (.aload_n 0, 1) := by decide +kernel
theorem dX3_liesBeside_9 : decode cX3_liesBeside 9 = .ok (.iload_n 1, 1) := by decide +kernel
theorem dX3_liesBeside_10 : decode cX3_liesBeside 10 = .ok (.iload_n 2, 1) := by decide +kernel
theorem dX3_liesBeside_11 : decode cX3_liesBeside 11 = .ok (.invokevirtual 74, 3) := by decide +kernel
theorem dX3_liesBeside_14 : decode cX3_liesBeside 14 = .ok (.aload_n 0, 1) := by decide +kernel
theorem dX3_liesBeside_15 : decode cX3_liesBeside 15 = .ok (.getfield 15, 3) := by decide +kernel
theorem dX3_liesBeside_18 : decode cX3_liesBeside 18 = .ok (.iload_n 2, 1) := by decide +kernel
theorem dX3_liesBeside_19 : decode cX3_liesBeside 19 = .ok (.iaload, 1) := by decide +kernel
theorem dX3_liesBeside_20 : decode cX3_liesBeside 20 = .ok (.if_icmp .eq 5, 3) := by decide +kernel
theorem dX3_liesBeside_23 : decode cX3_liesBeside 23 = .ok (.iconst 0, 1) := by decide +kernel
theorem dX3_liesBeside_24 : decode cX3_liesBeside 24 = .ok (.ireturn, 1) := by decide +kernel
theorem dX3_liesBeside_25 : decode cX3_liesBeside 25 = .ok (.iinc 2 1, 3) := by decide +kernel
theorem dX3_liesBeside_28 : decode cX3_liesBeside 28 = .ok (.goto (-26), 3) := by decide +kernel
theorem dX3_liesBeside_31 : decode cX3_liesBeside 31 = .ok (.iconst 1, 1) := by decide +kernel
theorem dX3_liesBeside_32 : decode cX3_liesBeside 32 = .ok (.ireturn, 1) := by decide +kernel
theorem dX3_overlaps_0 : decode cX3_overlaps 0 = .ok (.iconst 0, 1) := by decide +kernel
theorem dX3_overlaps_1 : decode cX3_overlaps 1 = .ok (.istore_n 1, 1) := by decide +kernel
theorem dX3_overlaps_2 : decode cX3_overlaps 2 = .ok (.iload_n 1, 1) := by decide +kernel
theorem dX3_overlaps_3 : decode cX3_overlaps 3 = .ok (.aload_n 0, 1) := by decide +kernel
theorem dX3_overlaps_4 : decode cX3_overlaps 4 = .ok (.getfield 21, 3) := by decide +kernel
theorem dX3_overlaps_7 : decode cX3_overlaps 7 = .ok (.if_icmp .ge 69, 3) := by decide +kernel
theorem dX3_overlaps_10 : decode cX3_overlaps 10 = .ok (.iconst 0, 1) := by decide +kernel
theorem dX3_overlaps_11 : decode cX3_overlaps 11 = .ok (.istore_n 2, 1) := by decide +kernel
theorem dX3_overlaps_12 : decode cX3_overlaps 12 = .ok (.iload_n 2, 1) := by decide +kernel
theorem dX3_overlaps_13 : decode cX3_overlaps 13 = .ok (.iload_n 1, 1) := by decide +kernel
theorem dX3_overlaps_14 : decode cX3_overlaps 14 = .ok (.if_icmp .ge 56, 3) := by decide +kernel
theorem dX3_overlaps_17 : decode cX3_overlaps 17 = .ok (.aload_n 0, 1) := by decide +kernel
theorem dX3_overlaps_18 : decode cX3_overlaps 18 = .ok (.iload_n 1, 1) := by decide +kernel
theorem dX3_overlaps_19 : decode cX3_overlaps 19 = .ok (.iconst 0, 1) := by decide +kernel
theorem dX3_overlaps_20 : decode cX3_overlaps 20 = .ok (.invokevirtual 74, 3) := by decide +kernel
theorem dX3_overlaps_23 : decode cX3_overlaps 23 = .ok (.aload_n 0, 1) := by decide +kernel
theorem dX3_overlaps_24 : decode cX3_overlaps 24 = .ok (.iload_n 2, 1) := by decide +kernel
theorem dX3_overlaps_25 : decode cX3_overlaps 25 = .ok (.iconst 0, 1) := by decide +kernel
theorem dX3_overlaps_26 : decode cX3_overlaps 26 = .ok (.invokevirtual 74, 3) := by decide +kernel
theorem dX3_overlaps_29 : decode cX3_overlaps 29 = .ok (.if_icmp .ne 35, 3) := by decide +kernel
theorem dX3_overlaps_32 : decode cX3_overlaps 32 = .ok (.aload_n 0, 1) := by decide +kernel
theorem dX3_overlaps_33 : decode cX3_overlaps 33 = .ok (.iload_n 1, 1) := by decide +kernel
theorem dX3_overlaps_34 : decode cX3_overlaps 34 = .ok (.iconst 1, 1) := by decide +kernel
theorem dX3_overlaps_35 : decode cX3_overlaps 35 = .ok (.invokevirtual 74, 3) := by decide +kernel
theorem dX3_overlaps_38 : decode cX3_overlaps 38 = .ok (.aload_n 0, 1) := by decide +kernel
theorem dX3_overlaps_39 : decode cX3_overlaps 39 = .ok (.iload_n 2, 1) := by decide +kernel
theorem dX3_overlaps_40 : decode cX3_overlaps 40 = .ok (.iconst 1, 1) := by decide +kernel
theorem dX3_overlaps_41 : decode cX3_overlaps 41 = .ok (.invokevirtual 74, 3) := by decide +kernel
theorem dX3_overlaps_44 : decode cX3_overlaps 44 = .ok (.if_icmp .ne 20, 3) := by decide +kernel
theorem dX3_overlaps_47 : decode cX3_overlaps 47 = .ok (.aload_n 0, 1) := by decide +kernel
theorem dX3_overlaps_48 : decode cX3_overlaps 48 = .ok (.iload_n 1, 1) := by decide +kernel
theorem dX3_overlaps_49 : decode cX3_overlaps 49 = .ok (.iconst 2, 1) := by decide +kernel
theorem dX3_overlaps_50 : decode cX3_overlaps 50 = .ok (.invokevirtual 74, 3) := by decide +kernel
theorem dX3_overlaps_53 : decode cX3_overlaps 53 = .ok (.aload_n 0, 1) := by decide +kernel
theorem dX3_overlaps_54 : decode cX3_overlaps 54 = .ok (.iload_n 2, 1) := by decide +kernel
theorem dX3_overlaps_55 : decode cX3_overlaps 55 = .ok (.iconst 2, 1) := by decide +kernel
theorem dX3_overlaps_56 : decode cX3_overlaps 56 = .ok (.invokevirtual 74, 3) := by decide +kernel
theorem dX3_overlaps_59 : decode cX3_overlaps 59 = .ok (.if_icmp .ne 5, 3) := by decide +kernel
theorem dX3_overlaps_62 : decode cX3_overlaps 62 = .ok (.iconst 1, 1) := by decide +kernel
theorem dX3_overlaps_63 : decode cX3_overlaps 63 = .ok (.ireturn, 1) := by decide +kernel
theorem dX3_overlaps_64 : decode cX3_overlaps 64 = .ok (.iinc 2 1, 3) := by decide +kernel
theorem dX3_overlaps_67 : decode cX3_overlaps 67 = .ok (.goto (-55), 3) := by decide +kernel
theorem dX3_overlaps_70 : decode cX3_overlaps 70 = .ok (.iinc 1 1, 3) := by decide +kernel
theorem dX3_overlaps_73 : decode cX3_overlaps 73 = .ok (.goto (-71), 3) := by decide +kernel
theorem dX3_overlaps_76 : decode cX3_overlaps 76 = .ok (.iconst 0, 1) := by decide +kernel
theorem dX3_overlaps_77 : decode cX3_overlaps 77 = .ok (.ireturn, 1) := by decide +kernel
theorem dX3_leavesNoGap_0 : decode cX3_leavesNoGap 0 = .ok (.iconst 0, 1) := by decide +kernel
theorem dX3_leavesNoGap_1 : decode cX3_leavesNoGap 1 = .ok (.istore_n 1, 1) := by decide +kernel
theorem dX3_leavesNoGap_2 : decode cX3_leavesNoGap 2 = .ok (.iload_n 1, 1) := by decide +kernel
theorem dX3_leavesNoGap_3 : decode cX3_leavesNoGap 3 = .ok (.aload_n 0, 1) := by decide +kernel
theorem dX3_leavesNoGap_4 : decode cX3_leavesNoGap 4 = .ok (.getfield 21, 3) := by decide +kernel
theorem dX3_leavesNoGap_7 : decode cX3_leavesNoGap 7 = .ok (.if_icmp .ge 38, 3) := by decide +kernel
theorem dX3_leavesNoGap_10 : decode cX3_leavesNoGap 10 = .ok (.iconst 0, 1) := by decide +kernel
theorem dX3_leavesNoGap_11 : decode cX3_leavesNoGap 11 = .ok (.istore_n 2, 1) := by decide +kernel
theorem dX3_leavesNoGap_12 : decode cX3_leavesNoGap 12 = .ok (.iload_n 2, 1) := by decide +kernel
theorem dX3_leavesNoGap_13 : decode cX3_leavesNoGap 13 = .ok (.iconst 4, 1) := by decide +kernel
theorem dX3_leavesNoGap_14 : decode cX3_leavesNoGap 14 = .ok (.if_icmp .ge 25, 3) := by decide +kernel
theorem dX3_leavesNoGap_17 : decode cX3_leavesNoGap 17 = .ok (.aload_n 0, 1) := by decide +kernel
theorem dX3_leavesNoGap_18 : decode cX3_leavesNoGap 18 = .ok (.getfield 18, 3) := by decide +kernel
theorem dX3_leavesNoGap_21 : decode cX3_leavesNoGap 21 = .ok (.iconst 4, 1) := by decide +kernel
theorem dX3_leavesNoGap_22 : decode cX3_leavesNoGap 22 = .ok (.iload_n 1, 1) := by decide +kernel
theorem dX3_leavesNoGap_23 : decode cX3_leavesNoGap 23 = .ok (.imul, 1) := by decide +kernel
theorem dX3_leavesNoGap_24 : decode cX3_leavesNoGap 24 = .ok (.iload_n 2, 1) := by decide +kernel
theorem dX3_leavesNoGap_25 : decode cX3_leavesNoGap 25 = .ok (.iadd, 1) := by decide +kernel
theorem dX3_leavesNoGap_26 : decode cX3_leavesNoGap 26 = .ok (.aload_n 0, 1) := by decide +kernel
theorem dX3_leavesNoGap_27 : decode cX3_leavesNoGap 27 = .ok (.iload_n 1, 1) := by decide +kernel
theorem dX3_leavesNoGap_28 : decode cX3_leavesNoGap 28 = .ok (.iload_n 2, 1) := by decide +kernel
theorem dX3_leavesNoGap_29 : decode cX3_leavesNoGap 29 = .ok (.invokevirtual 95, 3) := by decide +kernel
theorem dX3_leavesNoGap_32 : decode cX3_leavesNoGap 32 = .ok (.iastore, 1) := by decide +kernel
theorem dX3_leavesNoGap_33 : decode cX3_leavesNoGap 33 = .ok (.iinc 2 1, 3) := by decide +kernel
theorem dX3_leavesNoGap_36 : decode cX3_leavesNoGap 36 = .ok (.goto (-24), 3) := by decide +kernel
theorem dX3_leavesNoGap_39 : decode cX3_leavesNoGap 39 = .ok (.iinc 1 1, 3) := by decide +kernel
theorem dX3_leavesNoGap_42 : decode cX3_leavesNoGap 42 = .ok (.goto (-40), 3) := by decide +kernel
theorem dX3_leavesNoGap_45 : decode cX3_leavesNoGap 45 = .ok (.iconst 0, 1) := by decide +kernel
theorem dX3_leavesNoGap_46 : decode cX3_leavesNoGap 46 = .ok (.istore_n 1, 1) := by decide +kernel
theorem dX3_leavesNoGap_47 : decode cX3_leavesNoGap 47 = .ok (.iload_n 1, 1) := by decide +kernel
theorem dX3_leavesNoGap_48 : decode cX3_leavesNoGap 48 = .ok (.iconst 4, 1) := by decide +kernel
theorem dX3_leavesNoGap_49 : decode cX3_leavesNoGap 49 = .ok (.aload_n 0, 1) := by decide +kernel
theorem dX3_leavesNoGap_50 : decode cX3_leavesNoGap 50 = .ok (.getfield 21, 3) := by decide +kernel
theorem dX3_leavesNoGap_53 : decode cX3_leavesNoGap 53 = .ok (.imul, 1) := by decide +kernel
theorem dX3_leavesNoGap_54 : decode cX3_leavesNoGap 54 = .ok (.if_icmp .ge 25, 3) := by decide +kernel
theorem dX3_leavesNoGap_57 : decode cX3_leavesNoGap 57 = .ok (.aload_n 0, 1) := by decide +kernel
theorem dX3_leavesNoGap_58 : decode cX3_leavesNoGap 58 = .ok (.aload_n 0, 1) := by decide +kernel
theorem dX3_leavesNoGap_59 : decode cX3_leavesNoGap 59 = .ok (.getfield 18, 3) := by decide +kernel
theorem dX3_leavesNoGap_62 : decode cX3_leavesNoGap 62 = .ok (.iload_n 1, 1) := by decide +kernel
theorem dX3_leavesNoGap_63 : decode cX3_leavesNoGap 63 = .ok (.iaload, 1) := by decide +kernel
theorem dX3_leavesNoGap_64 : decode cX3_leavesNoGap 64 = .ok (.invokevirtual 98, 3) := by decide +kernel
theorem dX3_leavesNoGap_67 : decode cX3_leavesNoGap 67 = .ok (.iconst 2, 1) := by decide +kernel
theorem dX3_leavesNoGap_68 : decode cX3_leavesNoGap 68 = .ok (.if_icmp .eq 5, 3) := by decide +kernel
theorem dX3_leavesNoGap_71 : decode cX3_leavesNoGap 71 = .ok (.iconst 0, 1) := by decide +kernel
theorem dX3_leavesNoGap_72 : decode cX3_leavesNoGap 72 = .ok (.ireturn, 1) := by decide +kernel
theorem dX3_leavesNoGap_73 : decode cX3_leavesNoGap 73 = .ok (.iinc 1 1, 3) := by decide +kernel
theorem dX3_leavesNoGap_76 : decode cX3_leavesNoGap 76 = .ok (.goto (-29), 3) := by decide +kernel
theorem dX3_leavesNoGap_79 : decode cX3_leavesNoGap 79 = .ok (.iconst 1, 1) := by decide +kernel
theorem dX3_leavesNoGap_80 : decode cX3_leavesNoGap 80 = .ok (.ireturn, 1) := by decide +kernel
theorem dX3_rim_0 : decode cX3_rim 0 = .ok (.aload_n 0, 1) := by decide +kernel
theorem dX3_rim_1 : decode cX3_rim 1 = .ok (.iload_n 1, 1) := by decide +kernel
theorem dX3_rim_2 : decode cX3_rim 2 = .ok (.iload_n 2, 1) := by decide +kernel
theorem dX3_rim_3 : decode cX3_rim 3 = .ok (.invokevirtual 82, 3) := by decide +kernel
theorem dX3_rim_6 : decode cX3_rim 6 = .ok (.istore_n 3, 1) := by decide +kernel
theorem dX3_rim_7 : decode cX3_rim 7 = .ok (.iconst 0, 1) := by decide +kernel
theorem dX3_rim_8 : decode cX3_rim 8 = .ok (.istore 4, 2) := by decide +kernel
theorem dX3_rim_10 : decode cX3_rim 10 = .ok (.iconst 0, 1) := by decide +kernel
theorem dX3_rim_11 : decode cX3_rim 11 = .ok (.istore 5, 2) := by decide +kernel
theorem dX3_rim_13 : decode cX3_rim 13 = .ok (.iload 5, 2) := by decide +kernel
theorem dX3_rim_15 : decode cX3_rim 15 = .ok (.iconst 3, 1) := by decide +kernel
theorem dX3_rim_16 : decode cX3_rim 16 = .ok (.if_icmp .ge 36, 3) := by decide +kernel
theorem dX3_rim_19 : decode cX3_rim 19 = .ok (.sipush 256, 3) := by decide +kernel
theorem dX3_rim_22 : decode cX3_rim 22 = .ok (.iload 4, 2) := by decide +kernel
theorem dX3_rim_24 : decode cX3_rim 24 = .ok (.imul, 1) := by decide +kernel
theorem dX3_rim_25 : decode cX3_rim 25 = .ok (.sipush 128, 3) := by decide +kernel
theorem dX3_rim_28 : decode cX3_rim 28 = .ok (.iadd, 1) := by decide +kernel
theorem dX3_rim_29 : decode cX3_rim 29 = .ok (.aload_n 0, 1) := by decide +kernel
theorem dX3_rim_30 : decode cX3_rim 30 = .ok (.iload_n 1, 1) := by decide +kernel
theorem dX3_rim_31 : decode cX3_rim 31 = .ok (.iload 5, 2) := by decide +kernel
theorem dX3_rim_33 : decode cX3_rim 33 = .ok (.invokevirtual 74, 3) := by decide +kernel
theorem dX3_rim_36 : decode cX3_rim 36 = .ok (.iadd, 1) := by decide +kernel
theorem dX3_rim_37 : decode cX3_rim 37 = .ok (.iload_n 3, 1) := by decide +kernel
theorem dX3_rim_38 : decode cX3_rim 38 = .ok (.iload 5, 2) := by decide +kernel
theorem dX3_rim_40 : decode cX3_rim 40 = .ok (.invokestatic 85, 3) := by decide +kernel
theorem dX3_rim_43 : decode cX3_rim 43 = .ok (.iadd, 1) := by decide +kernel
theorem dX3_rim_44 : decode cX3_rim 44 = .ok (.istore 4, 2) := by decide +kernel
theorem dX3_rim_46 : decode cX3_rim 46 = .ok (.iinc 5 1, 3) := by decide +kernel
theorem dX3_rim_49 : decode cX3_rim 49 = .ok (.goto (-36), 3) := by decide +kernel
theorem dX3_rim_52 : decode cX3_rim 52 = .ok (.iconst 3, 1) := by decide +kernel
theorem dX3_rim_53 : decode cX3_rim 53 = .ok (.iload 4, 2) := by decide +kernel
theorem dX3_rim_55 : decode cX3_rim 55 = .ok (.imul, 1) := by decide +kernel
theorem dX3_rim_56 : decode cX3_rim 56 = .ok (.aload_n 0, 1) := by decide +kernel
theorem dX3_rim_57 : decode cX3_rim 57 = .ok (.iload_n 1, 1) := by decide +kernel
theorem dX3_rim_58 : decode cX3_rim 58 = .ok (.iload_n 2, 1) := by decide +kernel
theorem dX3_rim_59 : decode cX3_rim 59 = .ok (.iconst 1, 1) := by decide +kernel
theorem dX3_rim_60 : decode cX3_rim 60 = .ok (.iadd, 1) := by decide +kernel
theorem dX3_rim_61 : decode cX3_rim 61 = .ok (.iconst 3, 1) := by decide +kernel
theorem dX3_rim_62 : decode cX3_rim 62 = .ok (.iand, 1) := by decide +kernel
theorem dX3_rim_63 : decode cX3_rim 63 = .ok (.invokevirtual 82, 3) := by decide +kernel
theorem dX3_rim_66 : decode cX3_rim 66 = .ok (.iconst 1, 1) := by decide +kernel
theorem dX3_rim_67 : decode cX3_rim 67 = .ok (.ishr, 1) := by decide +kernel
theorem dX3_rim_68 : decode cX3_rim 68 = .ok (.iadd, 1) := by decide +kernel
theorem dX3_rim_69 : decode cX3_rim 69 = .ok (.ireturn, 1) := by decide +kernel
theorem dX3_timesAmongRims_0 : decode cX3_timesAmongRims 0 = .ok (.iconst 0, 1) := by decide +kernel
theorem dX3_timesAmongRims_1 : decode cX3_timesAmongRims 1 = .ok (.istore_n 2, 1) := by decide +kernel
theorem dX3_timesAmongRims_2 : decode cX3_timesAmongRims 2 = .ok (.iconst 0, 1) := by decide +kernel
theorem dX3_timesAmongRims_3 : decode cX3_timesAmongRims 3 = .ok (.istore_n 3, 1) := by decide +kernel
theorem dX3_timesAmongRims_4 : decode cX3_timesAmongRims 4 = .ok (.iload_n 3, 1) := by decide +kernel
theorem dX3_timesAmongRims_5 : decode cX3_timesAmongRims 5 = .ok (.iconst 4, 1) := by decide +kernel
theorem dX3_timesAmongRims_6 : decode cX3_timesAmongRims 6 = .ok (.aload_n 0, 1) := by decide +kernel
theorem dX3_timesAmongRims_7 : decode cX3_timesAmongRims 7 = .ok (.getfield 21, 3) := by decide +kernel
theorem dX3_timesAmongRims_10 : decode cX3_timesAmongRims 10 = .ok (.imul, 1) := by decide +kernel
theorem dX3_timesAmongRims_11 : decode cX3_timesAmongRims 11 = .ok (.if_icmp .ge 27, 3) := by decide +kernel
theorem dX3_timesAmongRims_14 : decode cX3_timesAmongRims 14 = .ok (.iload_n 2, 1) := by decide +kernel
theorem dX3_timesAmongRims_15 : decode cX3_timesAmongRims 15 = .ok (.aload_n 0, 1) := by decide +kernel
theorem dX3_timesAmongRims_16 : decode cX3_timesAmongRims 16 = .ok (.getfield 18, 3) := by decide +kernel
theorem dX3_timesAmongRims_19 : decode cX3_timesAmongRims 19 = .ok (.iload_n 3, 1) := by decide +kernel
theorem dX3_timesAmongRims_20 : decode cX3_timesAmongRims 20 = .ok (.iaload, 1) := by decide +kernel
theorem dX3_timesAmongRims_21 : decode cX3_timesAmongRims 21 = .ok (.iload_n 1, 1) := by decide +kernel
theorem dX3_timesAmongRims_22 : decode cX3_timesAmongRims 22 = .ok (.if_icmp .ne 7, 3) := by decide +kernel
theorem dX3_timesAmongRims_25 : decode cX3_timesAmongRims 25 = .ok (.iconst 1, 1) := by decide +kernel
theorem dX3_timesAmongRims_26 : decode cX3_timesAmongRims 26 = .ok (.goto 4, 3) := by decide +kernel
theorem dX3_timesAmongRims_29 : decode cX3_timesAmongRims 29 = .ok (.iconst 0, 1) := by decide +kernel
theorem dX3_timesAmongRims_30 : decode cX3_timesAmongRims 30 = .ok (.iadd, 1) := by decide +kernel
theorem dX3_timesAmongRims_31 : decode cX3_timesAmongRims 31 = .ok (.istore_n 2, 1) := by decide +kernel
theorem dX3_timesAmongRims_32 : decode cX3_timesAmongRims 32 = .ok (.iinc 3 1, 3) := by decide +kernel
theorem dX3_timesAmongRims_35 : decode cX3_timesAmongRims 35 = .ok (.goto (-31), 3) := by decide +kernel
theorem dX3_timesAmongRims_38 : decode cX3_timesAmongRims 38 = .ok (.iload_n 2, 1) := by decide +kernel
theorem dX3_timesAmongRims_39 : decode cX3_timesAmongRims 39 = .ok (.ireturn, 1) := by decide +kernel
theorem dX4_init_0 : decode cX4_init 0 = .ok (.aload_n 0, 1) := by decide +kernel
theorem dX4_init_1 : decode cX4_init 1 = .ok (.invokespecial 1, 3) := by decide +kernel
theorem dX4_init_4 : decode cX4_init 4 = .ok (.aload_n 0, 1) := by decide +kernel
theorem dX4_init_5 : decode cX4_init 5 = .ok (.sipush 240, 3) := by decide +kernel
theorem dX4_init_8 : decode cX4_init 8 = .ok (.newarray .int, 2) := by decide +kernel
theorem dX4_init_10 : decode cX4_init 10 = .ok (.putfield 11, 3) := by decide +kernel
theorem dX4_init_13 : decode cX4_init 13 = .ok (.aload_n 0, 1) := by decide +kernel
theorem dX4_init_14 : decode cX4_init 14 = .ok (.sipush 240, 3) := by decide +kernel
theorem dX4_init_17 : decode cX4_init 17 = .ok (.newarray .int, 2) := by decide +kernel
theorem dX4_init_19 : decode cX4_init 19 = .ok (.putfield 15, 3) := by decide +kernel
theorem dX4_init_22 : decode cX4_init 22 = .ok (.aload_n 0, 1) := by decide +kernel
theorem dX4_init_23 : decode cX4_init 23 = .ok (.bipush 60, 2) := by decide +kernel
theorem dX4_init_25 : decode cX4_init 25 = .ok (.newarray .int, 2) := by decide +kernel
theorem dX4_init_27 : decode cX4_init 27 = .ok (.putfield 18, 3) := by decide +kernel
theorem dX4_init_30 : decode cX4_init 30 = .ok (.aload_n 0, 1) := by decide +kernel
theorem dX4_init_31 : decode cX4_init 31 = .ok (.iconst 0, 1) := by decide +kernel
theorem dX4_init_32 : decode cX4_init 32 = .ok (.putfield 21, 3) := by decide +kernel
theorem dX4_init_35 : decode cX4_init 35 = .ok (.aload_n 0, 1) := by decide +kernel
theorem dX4_init_36 : decode cX4_init 36 = .ok (.iconst 0, 1) := by decide +kernel
theorem dX4_init_37 : decode cX4_init 37 = .ok (.putfield 25, 3) := by decide +kernel
theorem dX4_init_40 : decode cX4_init 40 = .ok (.return_, 1) := by decide +kernel
theorem dX4_length_0 : decode cX4_length 0 = .ok (.aload_n 0, 1) := by decide +kernel
theorem dX4_length_1 : decode cX4_length 1 = .ok (.getfield 21, 3) := by decide +kernel
theorem dX4_length_4 : decode cX4_length 4 = .ok (.ireturn, 1) := by decide +kernel
theorem dX4_number_0 : decode cX4_number 0 = .ok (.aload_n 0, 1) := by decide +kernel
theorem dX4_number_1 : decode cX4_number 1 = .ok (.getfield 11, 3) := by decide +kernel
theorem dX4_number_4 : decode cX4_number 4 = .ok (.iload_n 1, 1) := by decide +kernel
theorem dX4_number_5 : decode cX4_number 5 = .ok (.iaload, 1) := by decide +kernel
theorem dX4_number_6 : decode cX4_number 6 = .ok (.ireturn, 1) := by decide +kernel
theorem dX4_timesWritten_0 : decode cX4_timesWritten 0 = .ok (.aload_n 0, 1) := by decide +kernel
theorem dX4_timesWritten_1 : decode cX4_timesWritten 1 = .ok (.getfield 25, 3) := by decide +kernel
theorem dX4_timesWritten_4 : decode cX4_timesWritten 4 = .ok (.ireturn, 1) := by decide +kernel
theorem dX4_matches_0 : decode cX4_matches 0 = .ok (.aload_n 0, 1) := by decide +kernel
theorem dX4_matches_1 : decode cX4_matches 1 = .ok (.getfield 21, 3) := by decide +kernel
theorem dX4_matches_4 : decode cX4_matches 4 = .ok (.aload_n 1, 1) := by decide +kernel
theorem dX4_matches_5 : decode cX4_matches 5 = .ok (.getfield 21, 3) := by decide +kernel
theorem dX4_matches_8 : decode cX4_matches 8 = .ok (.if_icmp .eq 5, 3) := by decide +kernel
theorem dX4_matches_11 : decode cX4_matches 11 = .ok (.iconst 0, 1) := by decide +kernel
theorem dX4_matches_12 : decode cX4_matches 12 = .ok (.ireturn, 1) := by decide +kernel
theorem dX4_matches_13 : decode cX4_matches 13 = .ok (.aload_n 0, 1) := by decide +kernel
theorem dX4_matches_14 : decode cX4_matches 14 = .ok (.aload_n 0, 1) := by decide +kernel
theorem dX4_matches_15 : decode cX4_matches 15 = .ok (.getfield 11, 3) := by decide +kernel
theorem dX4_matches_18 : decode cX4_matches 18 = .ok (.aload_n 1, 1) := by decide +kernel
theorem dX4_matches_19 : decode cX4_matches 19 = .ok (.getfield 11, 3) := by decide +kernel
theorem dX4_matches_22 : decode cX4_matches 22 = .ok (.invokevirtual 28, 3) := by decide +kernel
theorem dX4_matches_25 : decode cX4_matches 25 = .ok (.ifCond .ne 7, 3) := by decide +kernel
theorem dX4_matches_28 : decode cX4_matches 28 = .ok (.iconst 1, 1) := by decide +kernel
theorem dX4_matches_29 : decode cX4_matches 29 = .ok (.goto 4, 3) := by decide +kernel
theorem dX4_matches_32 : decode cX4_matches 32 = .ok (.iconst 0, 1) := by decide +kernel
theorem dX4_matches_33 : decode cX4_matches 33 = .ok (.ireturn, 1) := by decide +kernel
theorem dX4_take_0 : decode cX4_take 0 = .ok (.aload_n 0, 1) := by decide +kernel
theorem dX4_take_1 : decode cX4_take 1 = .ok (.iconst 4, 1) := by decide +kernel
theorem dX4_take_2 : decode cX4_take 2 = .ok (.aload_n 1, 1) := by decide +kernel
theorem dX4_take_3 : decode cX4_take 3 = .ok (.invokevirtual 32, 3) := by decide +kernel
theorem dX4_take_6 : decode cX4_take 6 = .ok (.imul, 1) := by decide +kernel
theorem dX4_take_7 : decode cX4_take 7 = .ok (.putfield 21, 3) := by decide +kernel
theorem dX4_take_10 : decode cX4_take 10 = .ok (.aload_n 0, 1) := by decide +kernel
theorem dX4_take_11 : decode cX4_take 11 = .ok (.iconst 0, 1) := by decide +kernel
theorem dX4_take_12 : decode cX4_take 12 = .ok (.putfield 25, 3) := by decide +kernel
theorem dX4_take_15 : decode cX4_take 15 = .ok (.iconst 0, 1) := by decide +kernel
theorem dX4_take_16 : decode cX4_take 16 = .ok (.istore_n 2, 1) := by decide +kernel
theorem dX4_take_17 : decode cX4_take 17 = .ok (.iload_n 2, 1) := by decide +kernel
theorem dX4_take_18 : decode cX4_take 18 = .ok (.bipush 8, 2) := by decide +kernel
theorem dX4_take_20 : decode cX4_take 20 = .ok (.if_icmp .ge 94, 3) := by decide +kernel
theorem dX4_take_23 : decode cX4_take 23 = .ok (.aload_n 0, 1) := by decide +kernel
theorem dX4_take_24 : decode cX4_take 24 = .ok (.aload_n 1, 1) := by decide +kernel
theorem dX4_take_25 : decode cX4_take 25 = .ok (.iload_n 2, 1) := by decide +kernel
theorem dX4_take_26 : decode cX4_take 26 = .ok (.iconst 3, 1) := by decide +kernel
theorem dX4_take_27 : decode cX4_take 27 = .ok (.iand, 1) := by decide +kernel
theorem dX4_take_28 : decode cX4_take 28 = .ok (.iload_n 2, 1) := by decide +kernel
theorem dX4_take_29 : decode cX4_take 29 = .ok (.iconst 4, 1) := by decide +kernel
theorem dX4_take_30 : decode cX4_take 30 = .ok (.if_icmp .lt 7, 3) := by decide +kernel
theorem dX4_take_33 : decode cX4_take 33 = .ok (.iconst 1, 1) := by decide +kernel
theorem dX4_take_34 : decode cX4_take 34 = .ok (.goto 4, 3) := by decide +kernel
theorem dX4_take_37 : decode cX4_take 37 = .ok (.iconst 0, 1) := by decide +kernel
theorem dX4_take_38 : decode cX4_take 38 = .ok (.invokevirtual 35, 3) := by decide +kernel
theorem dX4_take_41 : decode cX4_take 41 = .ok (.aload_n 0, 1) := by decide +kernel
theorem dX4_take_42 : decode cX4_take 42 = .ok (.getfield 25, 3) := by decide +kernel
theorem dX4_take_45 : decode cX4_take 45 = .ok (.ifCond .ne 7, 3) := by decide +kernel
theorem dX4_take_48 : decode cX4_take 48 = .ok (.iconst (-1), 1) := by decide +kernel
theorem dX4_take_49 : decode cX4_take 49 = .ok (.goto 15, 3) := by decide +kernel
theorem dX4_take_52 : decode cX4_take 52 = .ok (.aload_n 0, 1) := by decide +kernel
theorem dX4_take_53 : decode cX4_take 53 = .ok (.aload_n 0, 1) := by decide +kernel
theorem dX4_take_54 : decode cX4_take 54 = .ok (.getfield 15, 3) := by decide +kernel
theorem dX4_take_57 : decode cX4_take 57 = .ok (.aload_n 0, 1) := by decide +kernel
theorem dX4_take_58 : decode cX4_take 58 = .ok (.getfield 11, 3) := by decide +kernel
theorem dX4_take_61 : decode cX4_take 61 = .ok (.invokevirtual 28, 3) := by decide +kernel
theorem dX4_take_64 : decode cX4_take 64 = .ok (.istore_n 3, 1) := by decide +kernel
theorem dX4_take_65 : decode cX4_take 65 = .ok (.iload_n 3, 1) := by decide +kernel
theorem dX4_take_66 : decode cX4_take 66 = .ok (.ifCond .ge 28, 3) := by decide +kernel
theorem dX4_take_69 : decode cX4_take 69 = .ok (.aload_n 0, 1) := by decide +kernel
theorem dX4_take_70 : decode cX4_take 70 = .ok (.getfield 15, 3) := by decide +kernel
theorem dX4_take_73 : decode cX4_take 73 = .ok (.iconst 0, 1) := by decide +kernel
theorem dX4_take_74 : decode cX4_take 74 = .ok (.aload_n 0, 1) := by decide +kernel
theorem dX4_take_75 : decode cX4_take 75 = .ok (.getfield 11, 3) := by decide +kernel
theorem dX4_take_78 : decode cX4_take 78 = .ok (.iconst 0, 1) := by decide +kernel
theorem dX4_take_79 : decode cX4_take 79 = .ok (.aload_n 0, 1) := by decide +kernel
theorem dX4_take_80 : decode cX4_take 80 = .ok (.getfield 21, 3) := by decide +kernel
theorem dX4_take_83 : decode cX4_take 83 = .ok (.invokestatic 39, 3) := by decide +kernel
theorem dX4_take_86 : decode cX4_take 86 = .ok (.aload_n 0, 1) := by decide +kernel
theorem dX4_take_87 : decode cX4_take 87 = .ok (.iconst 1, 1) := by decide +kernel
theorem dX4_take_88 : decode cX4_take 88 = .ok (.putfield 25, 3) := by decide +kernel
theorem dX4_take_91 : decode cX4_take 91 = .ok (.goto 17, 3) := by decide +kernel
theorem dX4_take_94 : decode cX4_take 94 = .ok (.iload_n 3, 1) := by decide +kernel
theorem dX4_take_95 : decode cX4_take 95 = .ok (.ifCond .ne 13, 3) := by decide +kernel
theorem dX4_take_98 : decode cX4_take 98 = .ok (.aload_n 0, 1) := by decide +kernel
theorem dX4_take_99 : decode cX4_take 99 = .ok (.dup, 1) := by decide +kernel
theorem dX4_take_100 : decode cX4_take 100 = .ok (.getfield 25, 3) := by decide +kernel
theorem dX4_take_103 : decode cX4_take 103 = .ok (.iconst 1, 1) := by decide +kernel
theorem dX4_take_104 : decode cX4_take 104 = .ok (.iadd, 1) := by decide +kernel
theorem dX4_take_105 : decode cX4_take 105 = .ok (.putfield 25, 3) := by decide +kernel
theorem dX4_take_108 : decode cX4_take 108 = .ok (.iinc 2 1, 3) := by decide +kernel
theorem dX4_take_111 : decode cX4_take 111 = .ok (.goto (-94), 3) := by decide +kernel
theorem dX4_take_114 : decode cX4_take 114 = .ok (.return_, 1) := by decide +kernel
theorem dX4_compare_0 : decode cX4_compare 0 = .ok (.iconst 0, 1) := by decide +kernel
theorem dX4_compare_1 : decode cX4_compare 1 = .ok (.istore_n 3, 1) := by decide +kernel
theorem dX4_compare_2 : decode cX4_compare 2 = .ok (.iload_n 3, 1) := by decide +kernel
theorem dX4_compare_3 : decode cX4_compare 3 = .ok (.aload_n 0, 1) := by decide +kernel
theorem dX4_compare_4 : decode cX4_compare 4 = .ok (.getfield 21, 3) := by decide +kernel
theorem dX4_compare_7 : decode cX4_compare 7 = .ok (.if_icmp .ge 33, 3) := by decide +kernel
theorem dX4_compare_10 : decode cX4_compare 10 = .ok (.aload_n 1, 1) := by decide +kernel
theorem dX4_compare_11 : decode cX4_compare 11 = .ok (.iload_n 3, 1) := by decide +kernel
theorem dX4_compare_12 : decode cX4_compare 12 = .ok (.iaload, 1) := by decide +kernel
theorem dX4_compare_13 : decode cX4_compare 13 = .ok (.aload_n 2, 1) := by decide +kernel
theorem dX4_compare_14 : decode cX4_compare 14 = .ok (.iload_n 3, 1) := by decide +kernel
theorem dX4_compare_15 : decode cX4_compare 15 = .ok (.iaload, 1) := by decide +kernel
theorem dX4_compare_16 : decode cX4_compare 16 = .ok (.if_icmp .eq 18, 3) := by decide +kernel
theorem dX4_compare_19 : decode cX4_compare 19 = .ok (.aload_n 1, 1) := by decide +kernel
theorem dX4_compare_20 : decode cX4_compare 20 = .ok (.iload_n 3, 1) := by decide +kernel
theorem dX4_compare_21 : decode cX4_compare 21 = .ok (.iaload, 1) := by decide +kernel
theorem dX4_compare_22 : decode cX4_compare 22 = .ok (.aload_n 2, 1) := by decide +kernel
theorem dX4_compare_23 : decode cX4_compare 23 = .ok (.iload_n 3, 1) := by decide +kernel
theorem dX4_compare_24 : decode cX4_compare 24 = .ok (.iaload, 1) := by decide +kernel
theorem dX4_compare_25 : decode cX4_compare 25 = .ok (.if_icmp .ge 7, 3) := by decide +kernel
theorem dX4_compare_28 : decode cX4_compare 28 = .ok (.iconst (-1), 1) := by decide +kernel
theorem dX4_compare_29 : decode cX4_compare 29 = .ok (.goto 4, 3) := by decide +kernel
theorem dX4_compare_32 : decode cX4_compare 32 = .ok (.iconst 1, 1) := by decide +kernel
theorem dX4_compare_33 : decode cX4_compare 33 = .ok (.ireturn, 1) := by decide +kernel
theorem dX4_compare_34 : decode cX4_compare 34 = .ok (.iinc 3 1, 3) := by decide +kernel
theorem dX4_compare_37 : decode cX4_compare 37 = .ok (.goto (-35), 3) := by decide +kernel
theorem dX4_compare_40 : decode cX4_compare 40 = .ok (.iconst 0, 1) := by decide +kernel
theorem dX4_compare_41 : decode cX4_compare 41 = .ok (.ireturn, 1) := by decide +kernel
theorem dX4_write_0 : decode cX4_write 0 = .ok (.bipush 30, 2) := by decide +kernel
theorem dX4_write_2 : decode cX4_write 2 = .ok (.istore 4, 2) := by decide +kernel
theorem dX4_write_4 : decode cX4_write 4 = .ok (.bipush 30, 2) := by decide +kernel
theorem dX4_write_6 : decode cX4_write 6 = .ok (.istore 5, 2) := by decide +kernel
theorem dX4_write_8 : decode cX4_write 8 = .ok (.iconst 0, 1) := by decide +kernel
theorem dX4_write_9 : decode cX4_write 9 = .ok (.istore 6, 2) := by decide +kernel
theorem dX4_write_11 : decode cX4_write 11 = .ok (.iload 6, 2) := by decide +kernel
theorem dX4_write_13 : decode cX4_write 13 = .ok (.aload_n 1, 1) := by decide +kernel
theorem dX4_write_14 : decode cX4_write 14 = .ok (.invokevirtual 32, 3) := by decide +kernel
theorem dX4_write_17 : decode cX4_write 17 = .ok (.if_icmp .ge 39, 3) := by decide +kernel
theorem dX4_write_20 : decode cX4_write 20 = .ok (.iload 4, 2) := by decide +kernel
theorem dX4_write_22 : decode cX4_write 22 = .ok (.aload_n 1, 1) := by decide +kernel
theorem dX4_write_23 : decode cX4_write 23 = .ok (.iload 6, 2) := by decide +kernel
theorem dX4_write_25 : decode cX4_write 25 = .ok (.iload_n 2, 1) := by decide +kernel
theorem dX4_write_26 : decode cX4_write 26 = .ok (.iload_n 3, 1) := by decide +kernel
theorem dX4_write_27 : decode cX4_write 27 = .ok (.invokevirtual 45, 3) := by decide +kernel
theorem dX4_write_30 : decode cX4_write 30 = .ok (.invokestatic 49, 3) := by decide +kernel
theorem dX4_write_33 : decode cX4_write 33 = .ok (.istore 4, 2) := by decide +kernel
theorem dX4_write_35 : decode cX4_write 35 = .ok (.iload 5, 2) := by decide +kernel
theorem dX4_write_37 : decode cX4_write 37 = .ok (.aload_n 1, 1) := by decide +kernel
theorem dX4_write_38 : decode cX4_write 38 = .ok (.iload 6, 2) := by decide +kernel
theorem dX4_write_40 : decode cX4_write 40 = .ok (.iload_n 2, 1) := by decide +kernel
theorem dX4_write_41 : decode cX4_write 41 = .ok (.iload_n 3, 1) := by decide +kernel
theorem dX4_write_42 : decode cX4_write 42 = .ok (.invokevirtual 55, 3) := by decide +kernel
theorem dX4_write_45 : decode cX4_write 45 = .ok (.invokestatic 49, 3) := by decide +kernel
theorem dX4_write_48 : decode cX4_write 48 = .ok (.istore 5, 2) := by decide +kernel
theorem dX4_write_50 : decode cX4_write 50 = .ok (.iinc 6 1, 3) := by decide +kernel
theorem dX4_write_53 : decode cX4_write 53 = .ok (.goto (-42), 3) := by decide +kernel
theorem dX4_write_56 : decode cX4_write 56 = .ok (.iconst 0, 1) := by decide +kernel
theorem dX4_write_57 : decode cX4_write 57 = .ok (.istore 6, 2) := by decide +kernel
theorem dX4_write_59 : decode cX4_write 59 = .ok (.iload 6, 2) := by decide +kernel
theorem dX4_write_61 : decode cX4_write 61 = .ok (.aload_n 1, 1) := by decide +kernel
theorem dX4_write_62 : decode cX4_write 62 = .ok (.invokevirtual 32, 3) := by decide +kernel
theorem dX4_write_65 : decode cX4_write 65 = .ok (.if_icmp .ge 55, 3) := by decide +kernel
theorem dX4_write_68 : decode cX4_write 68 = .ok (.aload_n 1, 1) := by decide +kernel
theorem dX4_write_69 : decode cX4_write 69 = .ok (.iload 6, 2) := by decide +kernel
theorem dX4_write_71 : decode cX4_write 71 = .ok (.iload_n 2, 1) := by decide +kernel
theorem dX4_write_72 : decode cX4_write 72 = .ok (.iload_n 3, 1) := by decide +kernel
theorem dX4_write_73 : decode cX4_write 73 = .ok (.invokevirtual 45, 3) := by decide +kernel
theorem dX4_write_76 : decode cX4_write 76 = .ok (.iload 4, 2) := by decide +kernel
theorem dX4_write_78 : decode cX4_write 78 = .ok (.isub, 1) := by decide +kernel
theorem dX4_write_79 : decode cX4_write 79 = .ok (.istore 7, 2) := by decide +kernel
theorem dX4_write_81 : decode cX4_write 81 = .ok (.aload_n 1, 1) := by decide +kernel
theorem dX4_write_82 : decode cX4_write 82 = .ok (.iload 6, 2) := by decide +kernel
theorem dX4_write_84 : decode cX4_write 84 = .ok (.iload_n 2, 1) := by decide +kernel
theorem dX4_write_85 : decode cX4_write 85 = .ok (.iload_n 3, 1) := by decide +kernel
theorem dX4_write_86 : decode cX4_write 86 = .ok (.invokevirtual 55, 3) := by decide +kernel
theorem dX4_write_89 : decode cX4_write 89 = .ok (.iload 5, 2) := by decide +kernel
theorem dX4_write_91 : decode cX4_write 91 = .ok (.isub, 1) := by decide +kernel
theorem dX4_write_92 : decode cX4_write 92 = .ok (.istore 8, 2) := by decide +kernel
theorem dX4_write_94 : decode cX4_write 94 = .ok (.aload_n 0, 1) := by decide +kernel
theorem dX4_write_95 : decode cX4_write 95 = .ok (.iload 6, 2) := by decide +kernel
theorem dX4_write_97 : decode cX4_write 97 = .ok (.iload 8, 2) := by decide +kernel
theorem dX4_write_99 : decode cX4_write 99 = .ok (.bipush 12, 2) := by decide +kernel
theorem dX4_write_101 : decode cX4_write 101 = .ok (.ishl, 1) := by decide +kernel
theorem dX4_write_102 : decode cX4_write 102 = .ok (.iload 7, 2) := by decide +kernel
theorem dX4_write_104 : decode cX4_write 104 = .ok (.bipush 6, 2) := by decide +kernel
theorem dX4_write_106 : decode cX4_write 106 = .ok (.ishl, 1) := by decide +kernel
theorem dX4_write_107 : decode cX4_write 107 = .ok (.ior, 1) := by decide +kernel
theorem dX4_write_108 : decode cX4_write 108 = .ok (.iload 6, 2) := by decide +kernel
theorem dX4_write_110 : decode cX4_write 110 = .ok (.ior, 1) := by decide +kernel
theorem dX4_write_111 : decode cX4_write 111 = .ok (.invokevirtual 58, 3) := by decide +kernel
theorem dX4_write_114 : decode cX4_write 114 = .ok (.iinc 6 1, 3) := by decide +kernel
theorem dX4_write_117 : decode cX4_write 117 = .ok (.goto (-58), 3) := by decide +kernel
theorem dX4_write_120 : decode cX4_write 120 = .ok (.iconst 0, 1) := by decide +kernel
theorem dX4_write_121 : decode cX4_write 121 = .ok (.istore 6, 2) := by decide +kernel
theorem dX4_write_123 : decode cX4_write 123 = .ok (.iload 6, 2) := by decide +kernel
theorem dX4_write_125 : decode cX4_write 125 = .ok (.aload_n 1, 1) := by decide +kernel
theorem dX4_write_126 : decode cX4_write 126 = .ok (.invokevirtual 32, 3) := by decide +kernel
theorem dX4_write_129 : decode cX4_write 129 = .ok (.if_icmp .ge 104, 3) := by decide +kernel
theorem dX4_write_132 : decode cX4_write 132 = .ok (.aload_n 0, 1) := by decide +kernel
theorem dX4_write_133 : decode cX4_write 133 = .ok (.getfield 18, 3) := by decide +kernel
theorem dX4_write_136 : decode cX4_write 136 = .ok (.iload 6, 2) := by decide +kernel
theorem dX4_write_138 : decode cX4_write 138 = .ok (.iaload, 1) := by decide +kernel
theorem dX4_write_139 : decode cX4_write 139 = .ok (.bipush 63, 2) := by decide +kernel
theorem dX4_write_141 : decode cX4_write 141 = .ok (.iand, 1) := by decide +kernel
theorem dX4_write_142 : decode cX4_write 142 = .ok (.istore 7, 2) := by decide +kernel
theorem dX4_write_144 : decode cX4_write 144 = .ok (.aload_n 0, 1) := by decide +kernel
theorem dX4_write_145 : decode cX4_write 145 = .ok (.getfield 15, 3) := by decide +kernel
theorem dX4_write_148 : decode cX4_write 148 = .ok (.iconst 4, 1) := by decide +kernel
theorem dX4_write_149 : decode cX4_write 149 = .ok (.iload 6, 2) := by decide +kernel
theorem dX4_write_151 : decode cX4_write 151 = .ok (.imul, 1) := by decide +kernel
theorem dX4_write_152 : decode cX4_write 152 = .ok (.aload_n 0, 1) := by decide +kernel
theorem dX4_write_153 : decode cX4_write 153 = .ok (.getfield 18, 3) := by decide +kernel
theorem dX4_write_156 : decode cX4_write 156 = .ok (.iload 6, 2) := by decide +kernel
theorem dX4_write_158 : decode cX4_write 158 = .ok (.iaload, 1) := by decide +kernel
theorem dX4_write_159 : decode cX4_write 159 = .ok (.bipush 12, 2) := by decide +kernel
theorem dX4_write_161 : decode cX4_write 161 = .ok (.ishr, 1) := by decide +kernel
theorem dX4_write_162 : decode cX4_write 162 = .ok (.iastore, 1) := by decide +kernel
theorem dX4_write_163 : decode cX4_write 163 = .ok (.aload_n 0, 1) := by decide +kernel
theorem dX4_write_164 : decode cX4_write 164 = .ok (.getfield 15, 3) := by decide +kernel
theorem dX4_write_167 : decode cX4_write 167 = .ok (.iconst 4, 1) := by decide +kernel
theorem dX4_write_168 : decode cX4_write 168 = .ok (.iload 6, 2) := by decide +kernel
theorem dX4_write_170 : decode cX4_write 170 = .ok (.imul, 1) := by decide +kernel
theorem dX4_write_171 : decode cX4_write 171 = .ok (.iconst 1, 1) := by decide +kernel
theorem dX4_write_172 : decode cX4_write 172 = .ok (.iadd, 1) := by decide +kernel
theorem dX4_write_173 : decode cX4_write 173 = .ok (.aload_n 0, 1) := by decide +kernel
theorem dX4_write_174 : decode cX4_write 174 = .ok (.getfield 18, 3) := by decide +kernel
theorem dX4_write_177 : decode cX4_write 177 = .ok (.iload 6, 2) := by decide +kernel
theorem dX4_write_179 : decode cX4_write 179 = .ok (.iaload, 1) := by decide +kernel
theorem dX4_write_180 : decode cX4_write 180 = .ok (.bipush 6, 2) := by decide +kernel
theorem dX4_write_182 : decode cX4_write 182 = .ok (.ishr, 1) := by decide +kernel
theorem dX4_write_183 : decode cX4_write 183 = .ok (.bipush 63, 2) := by decide +kernel
theorem dX4_write_185 : decode cX4_write 185 = .ok (.iand, 1) := by decide +kernel
theorem dX4_write_186 : decode cX4_write 186 = .ok (.iastore, 1) := by decide +kernel
theorem dX4_write_187 : decode cX4_write 187 = .ok (.aload_n 0, 1) := by decide +kernel
theorem dX4_write_188 : decode cX4_write 188 = .ok (.getfield 15, 3) := by decide +kernel
theorem dX4_write_191 : decode cX4_write 191 = .ok (.iconst 4, 1) := by decide +kernel
theorem dX4_write_192 : decode cX4_write 192 = .ok (.iload 6, 2) := by decide +kernel
theorem dX4_write_194 : decode cX4_write 194 = .ok (.imul, 1) := by decide +kernel
theorem dX4_write_195 : decode cX4_write 195 = .ok (.iconst 2, 1) := by decide +kernel
theorem dX4_write_196 : decode cX4_write 196 = .ok (.iadd, 1) := by decide +kernel
theorem dX4_write_197 : decode cX4_write 197 = .ok (.aload_n 1, 1) := by decide +kernel
theorem dX4_write_198 : decode cX4_write 198 = .ok (.iload 7, 2) := by decide +kernel
theorem dX4_write_200 : decode cX4_write 200 = .ok (.iconst 0, 1) := by decide +kernel
theorem dX4_write_201 : decode cX4_write 201 = .ok (.iload_n 2, 1) := by decide +kernel
theorem dX4_write_202 : decode cX4_write 202 = .ok (.iload_n 3, 1) := by decide +kernel
theorem dX4_write_203 : decode cX4_write 203 = .ok (.invokevirtual 62, 3) := by decide +kernel
theorem dX4_write_206 : decode cX4_write 206 = .ok (.iastore, 1) := by decide +kernel
theorem dX4_write_207 : decode cX4_write 207 = .ok (.aload_n 0, 1) := by decide +kernel
theorem dX4_write_208 : decode cX4_write 208 = .ok (.getfield 15, 3) := by decide +kernel
theorem dX4_write_211 : decode cX4_write 211 = .ok (.iconst 4, 1) := by decide +kernel
theorem dX4_write_212 : decode cX4_write 212 = .ok (.iload 6, 2) := by decide +kernel
theorem dX4_write_214 : decode cX4_write 214 = .ok (.imul, 1) := by decide +kernel
theorem dX4_write_215 : decode cX4_write 215 = .ok (.iconst 3, 1) := by decide +kernel
theorem dX4_write_216 : decode cX4_write 216 = .ok (.iadd, 1) := by decide +kernel
theorem dX4_write_217 : decode cX4_write 217 = .ok (.aload_n 1, 1) := by decide +kernel
theorem dX4_write_218 : decode cX4_write 218 = .ok (.iload 7, 2) := by decide +kernel
theorem dX4_write_220 : decode cX4_write 220 = .ok (.iconst 1, 1) := by decide +kernel
theorem dX4_write_221 : decode cX4_write 221 = .ok (.iload_n 2, 1) := by decide +kernel
theorem dX4_write_222 : decode cX4_write 222 = .ok (.iload_n 3, 1) := by decide +kernel
theorem dX4_write_223 : decode cX4_write 223 = .ok (.invokevirtual 62, 3) := by decide +kernel
theorem dX4_write_226 : decode cX4_write 226 = .ok (.iastore, 1) := by decide +kernel
theorem dX4_write_227 : decode cX4_write 227 = .ok (.iinc 6 1, 3) := by decide +kernel
theorem dX4_write_230 : decode cX4_write 230 = .ok (.goto (-107), 3) := by decide +kernel
theorem dX4_write_233 : decode cX4_write 233 = .ok (.return_, 1) := by decide +kernel
theorem dX4_insertKey_0 : decode cX4_insertKey 0 = .ok (.iload_n 1, 1) := by decide +kernel
theorem dX4_insertKey_1 : decode cX4_insertKey 1 = .ok (.istore_n 3, 1) := by decide +kernel
theorem dX4_insertKey_2 : decode cX4_insertKey 2 = .ok (.iload_n 3, 1) := by decide +kernel
theorem dX4_insertKey_3 : decode cX4_insertKey 3 = .ok (.ifCond .le 35, 3) := by decide +kernel
theorem dX4_insertKey_6 : decode cX4_insertKey 6 = .ok (.aload_n 0, 1) := by decide +kernel
theorem dX4_insertKey_7 : decode cX4_insertKey 7 = .ok (.getfield 18, 3) := by decide +kernel
theorem dX4_insertKey_10 : decode cX4_insertKey 10 = .ok (.iload_n 3, 1) := by decide +kernel
theorem dX4_insertKey_11 : decode cX4_insertKey 11 = .ok (.iconst 1, 1) := by decide +kernel
theorem dX4_insertKey_12 : decode cX4_insertKey 12 = .ok (.isub, 1) := by decide +kernel
theorem dX4_insertKey_13 : decode cX4_insertKey 13 = .ok (.iaload, 1) := by decide +kernel
theorem dX4_insertKey_14 : decode cX4_insertKey 14 = .ok (.iload_n 2, 1) := by decide +kernel
theorem dX4_insertKey_15 : decode cX4_insertKey 15 = .ok (.if_icmp .le 23, 3) := by decide +kernel
theorem dX4_insertKey_18 : decode cX4_insertKey 18 = .ok (.aload_n 0, 1) := by decide +kernel
theorem dX4_insertKey_19 : decode cX4_insertKey 19 = .ok (.getfield 18, 3) := by decide +kernel
theorem dX4_insertKey_22 : decode cX4_insertKey 22 = .ok (.iload_n 3, 1) := by decide +kernel
theorem dX4_insertKey_23 : decode cX4_insertKey 23 = .ok (.aload_n 0, 1) := by decide +kernel
theorem dX4_insertKey_24 : decode cX4_insertKey 24 = .ok (.getfield 18, 3) := by decide +kernel
theorem dX4_insertKey_27 : decode cX4_insertKey 27 = .ok (.iload_n 3, 1) := by decide +kernel
theorem dX4_insertKey_28 : decode cX4_insertKey 28 = .ok (.iconst 1, 1) := by decide +kernel
theorem dX4_insertKey_29 : decode cX4_insertKey 29 = .ok (.isub, 1) := by decide +kernel
theorem dX4_insertKey_30 : decode cX4_insertKey 30 = .ok (.iaload, 1) := by decide +kernel
theorem dX4_insertKey_31 : decode cX4_insertKey 31 = .ok (.iastore, 1) := by decide +kernel
theorem dX4_insertKey_32 : decode cX4_insertKey 32 = .ok (.iinc 3 (-1), 3) := by decide +kernel
theorem dX4_insertKey_35 : decode cX4_insertKey 35 = .ok (.goto (-33), 3) := by decide +kernel
theorem dX4_insertKey_38 : decode cX4_insertKey 38 = .ok (.aload_n 0, 1) := by decide +kernel
theorem dX4_insertKey_39 : decode cX4_insertKey 39 = .ok (.getfield 18, 3) := by decide +kernel
theorem dX4_insertKey_42 : decode cX4_insertKey 42 = .ok (.iload_n 3, 1) := by decide +kernel
theorem dX4_insertKey_43 : decode cX4_insertKey 43 = .ok (.iload_n 2, 1) := by decide +kernel
theorem dX4_insertKey_44 : decode cX4_insertKey 44 = .ok (.iastore, 1) := by decide +kernel
theorem dX4_insertKey_45 : decode cX4_insertKey 45 = .ok (.return_, 1) := by decide +kernel
theorem dX5_init_0 : decode cX5_init 0 = .ok (.aload_n 0, 1) := by decide +kernel
theorem dX5_init_1 : decode cX5_init 1 = .ok (.invokespecial 1, 3) := by decide +kernel
theorem dX5_init_4 : decode cX5_init 4 = .ok (.aload_n 0, 1) := by decide +kernel
theorem dX5_init_5 : decode cX5_init 5 = .ok (.bipush 60, 2) := by decide +kernel
theorem dX5_init_7 : decode cX5_init 7 = .ok (.newarray .int, 2) := by decide +kernel
theorem dX5_init_9 : decode cX5_init 9 = .ok (.putfield 9, 3) := by decide +kernel
theorem dX5_init_12 : decode cX5_init 12 = .ok (.aload_n 0, 1) := by decide +kernel
theorem dX5_init_13 : decode cX5_init 13 = .ok (.bipush 60, 2) := by decide +kernel
theorem dX5_init_15 : decode cX5_init 15 = .ok (.newarray .int, 2) := by decide +kernel
theorem dX5_init_17 : decode cX5_init 17 = .ok (.putfield 15, 3) := by decide +kernel
theorem dX5_init_20 : decode cX5_init 20 = .ok (.aload_n 0, 1) := by decide +kernel
theorem dX5_init_21 : decode cX5_init 21 = .ok (.bipush 60, 2) := by decide +kernel
theorem dX5_init_23 : decode cX5_init 23 = .ok (.newarray .int, 2) := by decide +kernel
theorem dX5_init_25 : decode cX5_init 25 = .ok (.putfield 18, 3) := by decide +kernel
theorem dX5_init_28 : decode cX5_init 28 = .ok (.aload_n 0, 1) := by decide +kernel
theorem dX5_init_29 : decode cX5_init 29 = .ok (.bipush 60, 2) := by decide +kernel
theorem dX5_init_31 : decode cX5_init 31 = .ok (.newarray .int, 2) := by decide +kernel
theorem dX5_init_33 : decode cX5_init 33 = .ok (.putfield 21, 3) := by decide +kernel
theorem dX5_init_36 : decode cX5_init 36 = .ok (.aload_n 0, 1) := by decide +kernel
theorem dX5_init_37 : decode cX5_init 37 = .ok (.iconst 0, 1) := by decide +kernel
theorem dX5_init_38 : decode cX5_init 38 = .ok (.putfield 24, 3) := by decide +kernel
theorem dX5_init_41 : decode cX5_init 41 = .ok (.aload_n 0, 1) := by decide +kernel
theorem dX5_init_42 : decode cX5_init 42 = .ok (.iconst 0, 1) := by decide +kernel
theorem dX5_init_43 : decode cX5_init 43 = .ok (.putfield 28, 3) := by decide +kernel
theorem dX5_init_46 : decode cX5_init 46 = .ok (.return_, 1) := by decide +kernel
theorem dX5_lay_0 : decode cX5_lay 0 = .ok (.aload_n 0, 1) := by decide +kernel
theorem dX5_lay_1 : decode cX5_lay 1 = .ok (.aload_n 1, 1) := by decide +kernel
theorem dX5_lay_2 : decode cX5_lay 2 = .ok (.invokevirtual 31, 3) := by decide +kernel
theorem dX5_lay_5 : decode cX5_lay 5 = .ok (.putfield 24, 3) := by decide +kernel
theorem dX5_lay_8 : decode cX5_lay 8 = .ok (.aload_n 0, 1) := by decide +kernel
theorem dX5_lay_9 : decode cX5_lay 9 = .ok (.aload_n 1, 1) := by decide +kernel
theorem dX5_lay_10 : decode cX5_lay 10 = .ok (.aload_n 2, 1) := by decide +kernel
theorem dX5_lay_11 : decode cX5_lay 11 = .ok (.invokevirtual 37, 3) := by decide +kernel
theorem dX5_lay_14 : decode cX5_lay 14 = .ok (.aload_n 0, 1) := by decide +kernel
theorem dX5_lay_15 : decode cX5_lay 15 = .ok (.getfield 28, 3) := by decide +kernel
theorem dX5_lay_18 : decode cX5_lay 18 = .ok (.aload_n 0, 1) := by decide +kernel
theorem dX5_lay_19 : decode cX5_lay 19 = .ok (.getfield 24, 3) := by decide +kernel
theorem dX5_lay_22 : decode cX5_lay 22 = .ok (.if_icmp .ge 5, 3) := by decide +kernel
theorem dX5_lay_25 : decode cX5_lay 25 = .ok (.iconst 1, 1) := by decide +kernel
theorem dX5_lay_26 : decode cX5_lay 26 = .ok (.ireturn, 1) := by decide +kernel
theorem dX5_lay_27 : decode cX5_lay 27 = .ok (.aload_n 0, 1) := by decide +kernel
theorem dX5_lay_28 : decode cX5_lay 28 = .ok (.aload_n 1, 1) := by decide +kernel
theorem dX5_lay_29 : decode cX5_lay 29 = .ok (.aload_n 2, 1) := by decide +kernel
theorem dX5_lay_30 : decode cX5_lay 30 = .ok (.invokevirtual 41, 3) := by decide +kernel
theorem dX5_lay_33 : decode cX5_lay 33 = .ok (.ifCond .ne 5, 3) := by decide +kernel
theorem dX5_lay_36 : decode cX5_lay 36 = .ok (.iconst 2, 1) := by decide +kernel
theorem dX5_lay_37 : decode cX5_lay 37 = .ok (.ireturn, 1) := by decide +kernel
theorem dX5_lay_38 : decode cX5_lay 38 = .ok (.aload_n 0, 1) := by decide +kernel
theorem dX5_lay_39 : decode cX5_lay 39 = .ok (.invokevirtual 45, 3) := by decide +kernel
theorem dX5_lay_42 : decode cX5_lay 42 = .ok (.ifCond .eq 7, 3) := by decide +kernel
theorem dX5_lay_45 : decode cX5_lay 45 = .ok (.iconst 3, 1) := by decide +kernel
theorem dX5_lay_46 : decode cX5_lay 46 = .ok (.goto 4, 3) := by decide +kernel
theorem dX5_lay_49 : decode cX5_lay 49 = .ok (.iconst 0, 1) := by decide +kernel
theorem dX5_lay_50 : decode cX5_lay 50 = .ok (.ireturn, 1) := by decide +kernel
theorem dX5_isWithinReach_0 : decode cX5_isWithinReach 0 = .ok (.iconst 0, 1) := by decide +kernel
theorem dX5_isWithinReach_1 : decode cX5_isWithinReach 1 = .ok (.istore_n 1, 1) := by decide +kernel
theorem dX5_isWithinReach_2 : decode cX5_isWithinReach 2 = .ok (.iload_n 1, 1) := by decide +kernel
theorem dX5_isWithinReach_3 : decode cX5_isWithinReach 3 = .ok (.aload_n 0, 1) := by decide +kernel
theorem dX5_isWithinReach_4 : decode cX5_isWithinReach 4 = .ok (.getfield 24, 3) := by decide +kernel
theorem dX5_isWithinReach_7 : decode cX5_isWithinReach 7 = .ok (.if_icmp .ge 39, 3) := by decide +kernel
theorem dX5_isWithinReach_10 : decode cX5_isWithinReach 10 = .ok (.aload_n 0, 1) := by decide +kernel
theorem dX5_isWithinReach_11 : decode cX5_isWithinReach 11 = .ok (.getfield 9, 3) := by decide +kernel
theorem dX5_isWithinReach_14 : decode cX5_isWithinReach 14 = .ok (.iload_n 1, 1) := by decide +kernel
theorem dX5_isWithinReach_15 : decode cX5_isWithinReach 15 = .ok (.iaload, 1) := by decide +kernel
theorem dX5_isWithinReach_16 : decode cX5_isWithinReach 16 = .ok (.invokestatic 49, 3) := by decide +kernel
theorem dX5_isWithinReach_19 : decode cX5_isWithinReach 19 = .ok (.bipush 30, 2) := by decide +kernel
theorem dX5_isWithinReach_21 : decode cX5_isWithinReach 21 = .ok (.if_icmp .gt 17, 3) := by decide +kernel
theorem dX5_isWithinReach_24 : decode cX5_isWithinReach 24 = .ok (.aload_n 0, 1) := by decide +kernel
theorem dX5_isWithinReach_25 : decode cX5_isWithinReach 25 = .ok (.getfield 15, 3) := by decide +kernel
theorem dX5_isWithinReach_28 : decode cX5_isWithinReach 28 = .ok (.iload_n 1, 1) := by decide +kernel
theorem dX5_isWithinReach_29 : decode cX5_isWithinReach 29 = .ok (.iaload, 1) := by decide +kernel
theorem dX5_isWithinReach_30 : decode cX5_isWithinReach 30 = .ok (.invokestatic 49, 3) := by decide +kernel
theorem dX5_isWithinReach_33 : decode cX5_isWithinReach 33 = .ok (.bipush 30, 2) := by decide +kernel
theorem dX5_isWithinReach_35 : decode cX5_isWithinReach 35 = .ok (.if_icmp .le 5, 3) := by decide +kernel
theorem dX5_isWithinReach_38 : decode cX5_isWithinReach 38 = .ok (.iconst 0, 1) := by decide +kernel
theorem dX5_isWithinReach_39 : decode cX5_isWithinReach 39 = .ok (.ireturn, 1) := by decide +kernel
theorem dX5_isWithinReach_40 : decode cX5_isWithinReach 40 = .ok (.iinc 1 1, 3) := by decide +kernel
theorem dX5_isWithinReach_43 : decode cX5_isWithinReach 43 = .ok (.goto (-41), 3) := by decide +kernel
theorem dX5_isWithinReach_46 : decode cX5_isWithinReach 46 = .ok (.iconst 1, 1) := by decide +kernel
theorem dX5_isWithinReach_47 : decode cX5_isWithinReach 47 = .ok (.ireturn, 1) := by decide +kernel
theorem dX5_drawOn_0 : decode cX5_drawOn 0 = .ok (.aload_n 1, 1) := by decide +kernel
theorem dX5_drawOn_1 : decode cX5_drawOn 1 = .ok (.invokevirtual 55, 3) := by decide +kernel
theorem dX5_drawOn_4 : decode cX5_drawOn 4 = .ok (.iconst 0, 1) := by decide +kernel
theorem dX5_drawOn_5 : decode cX5_drawOn 5 = .ok (.istore 4, 2) := by decide +kernel
theorem dX5_drawOn_7 : decode cX5_drawOn 7 = .ok (.iload 4, 2) := by decide +kernel
theorem dX5_drawOn_9 : decode cX5_drawOn 9 = .ok (.aload_n 0, 1) := by decide +kernel
theorem dX5_drawOn_10 : decode cX5_drawOn 10 = .ok (.getfield 24, 3) := by decide +kernel
theorem dX5_drawOn_13 : decode cX5_drawOn 13 = .ok (.if_icmp .ge 28, 3) := by decide +kernel
theorem dX5_drawOn_16 : decode cX5_drawOn 16 = .ok (.aload_n 1, 1) := by decide +kernel
theorem dX5_drawOn_17 : decode cX5_drawOn 17 = .ok (.aload_n 0, 1) := by decide +kernel
theorem dX5_drawOn_18 : decode cX5_drawOn 18 = .ok (.getfield 9, 3) := by decide +kernel
theorem dX5_drawOn_21 : decode cX5_drawOn 21 = .ok (.iload 4, 2) := by decide +kernel
theorem dX5_drawOn_23 : decode cX5_drawOn 23 = .ok (.iaload, 1) := by decide +kernel
theorem dX5_drawOn_24 : decode cX5_drawOn 24 = .ok (.aload_n 0, 1) := by decide +kernel
theorem dX5_drawOn_25 : decode cX5_drawOn 25 = .ok (.getfield 15, 3) := by decide +kernel
theorem dX5_drawOn_28 : decode cX5_drawOn 28 = .ok (.iload 4, 2) := by decide +kernel
theorem dX5_drawOn_30 : decode cX5_drawOn 30 = .ok (.iaload, 1) := by decide +kernel
theorem dX5_drawOn_31 : decode cX5_drawOn 31 = .ok (.invokevirtual 58, 3) := by decide +kernel
theorem dX5_drawOn_34 : decode cX5_drawOn 34 = .ok (.pop, 1) := by decide +kernel
theorem dX5_drawOn_35 : decode cX5_drawOn 35 = .ok (.iinc 4 1, 3) := by decide +kernel
theorem dX5_drawOn_38 : decode cX5_drawOn 38 = .ok (.goto (-31), 3) := by decide +kernel
theorem dX5_drawOn_41 : decode cX5_drawOn 41 = .ok (.iconst 0, 1) := by decide +kernel
theorem dX5_drawOn_42 : decode cX5_drawOn 42 = .ok (.istore 4, 2) := by decide +kernel
theorem dX5_drawOn_44 : decode cX5_drawOn 44 = .ok (.iload 4, 2) := by decide +kernel
theorem dX5_drawOn_46 : decode cX5_drawOn 46 = .ok (.aload_n 0, 1) := by decide +kernel
theorem dX5_drawOn_47 : decode cX5_drawOn 47 = .ok (.getfield 24, 3) := by decide +kernel
theorem dX5_drawOn_50 : decode cX5_drawOn 50 = .ok (.if_icmp .ge 117, 3) := by decide +kernel
theorem dX5_drawOn_53 : decode cX5_drawOn 53 = .ok (.aload_n 1, 1) := by decide +kernel
theorem dX5_drawOn_54 : decode cX5_drawOn 54 = .ok (.aload_n 0, 1) := by decide +kernel
theorem dX5_drawOn_55 : decode cX5_drawOn 55 = .ok (.getfield 9, 3) := by decide +kernel
theorem dX5_drawOn_58 : decode cX5_drawOn 58 = .ok (.iload 4, 2) := by decide +kernel
theorem dX5_drawOn_60 : decode cX5_drawOn 60 = .ok (.iaload, 1) := by decide +kernel
theorem dX5_drawOn_61 : decode cX5_drawOn 61 = .ok (.aload_n 0, 1) := by decide +kernel
theorem dX5_drawOn_62 : decode cX5_drawOn 62 = .ok (.getfield 15, 3) := by decide +kernel
theorem dX5_drawOn_65 : decode cX5_drawOn 65 = .ok (.iload 4, 2) := by decide +kernel
theorem dX5_drawOn_67 : decode cX5_drawOn 67 = .ok (.iaload, 1) := by decide +kernel
theorem dX5_drawOn_68 : decode cX5_drawOn 68 = .ok (.invokevirtual 62, 3) := by decide +kernel
theorem dX5_drawOn_71 : decode cX5_drawOn 71 = .ok (.istore 5, 2) := by decide +kernel
theorem dX5_drawOn_73 : decode cX5_drawOn 73 = .ok (.iconst 0, 1) := by decide +kernel
theorem dX5_drawOn_74 : decode cX5_drawOn 74 = .ok (.istore 6, 2) := by decide +kernel
theorem dX5_drawOn_76 : decode cX5_drawOn 76 = .ok (.iload 6, 2) := by decide +kernel
theorem dX5_drawOn_78 : decode cX5_drawOn 78 = .ok (.iconst 4, 1) := by decide +kernel
theorem dX5_drawOn_79 : decode cX5_drawOn 79 = .ok (.if_icmp .ge 82, 3) := by decide +kernel
theorem dX5_drawOn_82 : decode cX5_drawOn 82 = .ok (.iload 6, 2) := by decide +kernel
theorem dX5_drawOn_84 : decode cX5_drawOn 84 = .ok (.aload_n 0, 1) := by decide +kernel
theorem dX5_drawOn_85 : decode cX5_drawOn 85 = .ok (.getfield 18, 3) := by decide +kernel
theorem dX5_drawOn_88 : decode cX5_drawOn 88 = .ok (.iload 4, 2) := by decide +kernel
theorem dX5_drawOn_90 : decode cX5_drawOn 90 = .ok (.iaload, 1) := by decide +kernel
theorem dX5_drawOn_91 : decode cX5_drawOn 91 = .ok (.iadd, 1) := by decide +kernel
theorem dX5_drawOn_92 : decode cX5_drawOn 92 = .ok (.iconst 3, 1) := by decide +kernel
theorem dX5_drawOn_93 : decode cX5_drawOn 93 = .ok (.iand, 1) := by decide +kernel
theorem dX5_drawOn_94 : decode cX5_drawOn 94 = .ok (.istore 7, 2) := by decide +kernel
theorem dX5_drawOn_96 : decode cX5_drawOn 96 = .ok (.iload 5, 2) := by decide +kernel
theorem dX5_drawOn_98 : decode cX5_drawOn 98 = .ok (.ifCond .ge 7, 3) := by decide +kernel
theorem dX5_drawOn_101 : decode cX5_drawOn 101 = .ok (.iconst (-1), 1) := by decide +kernel
theorem dX5_drawOn_102 : decode cX5_drawOn 102 = .ok (.goto 11, 3) := by decide +kernel
theorem dX5_drawOn_105 : decode cX5_drawOn 105 = .ok (.aload_n 1, 1) := by decide +kernel
theorem dX5_drawOn_106 : decode cX5_drawOn 106 = .ok (.iload 5, 2) := by decide +kernel
theorem dX5_drawOn_108 : decode cX5_drawOn 108 = .ok (.iload 7, 2) := by decide +kernel
theorem dX5_drawOn_110 : decode cX5_drawOn 110 = .ok (.invokevirtual 65, 3) := by decide +kernel
theorem dX5_drawOn_113 : decode cX5_drawOn 113 = .ok (.istore 8, 2) := by decide +kernel
theorem dX5_drawOn_115 : decode cX5_drawOn 115 = .ok (.iload 8, 2) := by decide +kernel
theorem dX5_drawOn_117 : decode cX5_drawOn 117 = .ok (.ifCond .lt 38, 3) := by decide +kernel
theorem dX5_drawOn_120 : decode cX5_drawOn 120 = .ok (.aload_n 3, 1) := by decide +kernel
theorem dX5_drawOn_121 : decode cX5_drawOn 121 = .ok (.iload 4, 2) := by decide +kernel
theorem dX5_drawOn_123 : decode cX5_drawOn 123 = .ok (.iload 6, 2) := by decide +kernel
theorem dX5_drawOn_125 : decode cX5_drawOn 125 = .ok (.invokevirtual 68, 3) := by decide +kernel
theorem dX5_drawOn_128 : decode cX5_drawOn 128 = .ok (.ifCond .ne 27, 3) := by decide +kernel
theorem dX5_drawOn_131 : decode cX5_drawOn 131 = .ok (.iconst 2, 1) := by decide +kernel
theorem dX5_drawOn_132 : decode cX5_drawOn 132 = .ok (.aload_n 2, 1) := by decide +kernel
theorem dX5_drawOn_133 : decode cX5_drawOn 133 = .ok (.iload 4, 2) := by decide +kernel
theorem dX5_drawOn_135 : decode cX5_drawOn 135 = .ok (.iload 6, 2) := by decide +kernel
theorem dX5_drawOn_137 : decode cX5_drawOn 137 = .ok (.invokevirtual 74, 3) := by decide +kernel
theorem dX5_drawOn_140 : decode cX5_drawOn 140 = .ok (.iadd, 1) := by decide +kernel
theorem dX5_drawOn_141 : decode cX5_drawOn 141 = .ok (.istore 9, 2) := by decide +kernel
theorem dX5_drawOn_143 : decode cX5_drawOn 143 = .ok (.aload_n 1, 1) := by decide +kernel
theorem dX5_drawOn_144 : decode cX5_drawOn 144 = .ok (.iload 5, 2) := by decide +kernel
theorem dX5_drawOn_146 : decode cX5_drawOn 146 = .ok (.iload 8, 2) := by decide +kernel
theorem dX5_drawOn_148 : decode cX5_drawOn 148 = .ok (.iload 7, 2) := by decide +kernel
theorem dX5_drawOn_150 : decode cX5_drawOn 150 = .ok (.iload 9, 2) := by decide +kernel
theorem dX5_drawOn_152 : decode cX5_drawOn 152 = .ok (.invokevirtual 77, 3) := by decide +kernel
theorem dX5_drawOn_155 : decode cX5_drawOn 155 = .ok (.iinc 6 1, 3) := by decide +kernel
theorem dX5_drawOn_158 : decode cX5_drawOn 158 = .ok (.goto (-82), 3) := by decide +kernel
theorem dX5_drawOn_161 : decode cX5_drawOn 161 = .ok (.iinc 4 1, 3) := by decide +kernel
theorem dX5_drawOn_164 : decode cX5_drawOn 164 = .ok (.goto (-120), 3) := by decide +kernel
theorem dX5_drawOn_167 : decode cX5_drawOn 167 = .ok (.return_, 1) := by decide +kernel
theorem dX5_layAll_0 : decode cX5_layAll 0 = .ok (.aload_n 0, 1) := by decide +kernel
theorem dX5_layAll_1 : decode cX5_layAll 1 = .ok (.getfield 18, 3) := by decide +kernel
theorem dX5_layAll_4 : decode cX5_layAll 4 = .ok (.iconst (-1), 1) := by decide +kernel
theorem dX5_layAll_5 : decode cX5_layAll 5 = .ok (.invokestatic 81, 3) := by decide +kernel
theorem dX5_layAll_8 : decode cX5_layAll 8 = .ok (.aload_n 0, 1) := by decide +kernel
theorem dX5_layAll_9 : decode cX5_layAll 9 = .ok (.iconst 0, 1) := by decide +kernel
theorem dX5_layAll_10 : decode cX5_layAll 10 = .ok (.putfield 28, 3) := by decide +kernel
theorem dX5_layAll_13 : decode cX5_layAll 13 = .ok (.aload_n 0, 1) := by decide +kernel
theorem dX5_layAll_14 : decode cX5_layAll 14 = .ok (.iconst 0, 1) := by decide +kernel
theorem dX5_layAll_15 : decode cX5_layAll 15 = .ok (.iconst 0, 1) := by decide +kernel
theorem dX5_layAll_16 : decode cX5_layAll 16 = .ok (.iconst 0, 1) := by decide +kernel
theorem dX5_layAll_17 : decode cX5_layAll 17 = .ok (.iconst 0, 1) := by decide +kernel
theorem dX5_layAll_18 : decode cX5_layAll 18 = .ok (.invokevirtual 87, 3) := by decide +kernel
theorem dX5_layAll_21 : decode cX5_layAll 21 = .ok (.iconst 0, 1) := by decide +kernel
theorem dX5_layAll_22 : decode cX5_layAll 22 = .ok (.istore_n 3, 1) := by decide +kernel
theorem dX5_layAll_23 : decode cX5_layAll 23 = .ok (.iload_n 3, 1) := by decide +kernel
theorem dX5_layAll_24 : decode cX5_layAll 24 = .ok (.aload_n 0, 1) := by decide +kernel
theorem dX5_layAll_25 : decode cX5_layAll 25 = .ok (.getfield 24, 3) := by decide +kernel
theorem dX5_layAll_28 : decode cX5_layAll 28 = .ok (.if_icmp .ge 127, 3) := by decide +kernel
theorem dX5_layAll_31 : decode cX5_layAll 31 = .ok (.iload_n 3, 1) := by decide +kernel
theorem dX5_layAll_32 : decode cX5_layAll 32 = .ok (.aload_n 0, 1) := by decide +kernel
theorem dX5_layAll_33 : decode cX5_layAll 33 = .ok (.getfield 28, 3) := by decide +kernel
theorem dX5_layAll_36 : decode cX5_layAll 36 = .ok (.if_icmp .ge 119, 3) := by decide +kernel
theorem dX5_layAll_39 : decode cX5_layAll 39 = .ok (.aload_n 0, 1) := by decide +kernel
theorem dX5_layAll_40 : decode cX5_layAll 40 = .ok (.getfield 21, 3) := by decide +kernel
theorem dX5_layAll_43 : decode cX5_layAll 43 = .ok (.iload_n 3, 1) := by decide +kernel
theorem dX5_layAll_44 : decode cX5_layAll 44 = .ok (.iaload, 1) := by decide +kernel
theorem dX5_layAll_45 : decode cX5_layAll 45 = .ok (.istore 4, 2) := by decide +kernel
theorem dX5_layAll_47 : decode cX5_layAll 47 = .ok (.iconst 0, 1) := by decide +kernel
theorem dX5_layAll_48 : decode cX5_layAll 48 = .ok (.istore 5, 2) := by decide +kernel
theorem dX5_layAll_50 : decode cX5_layAll 50 = .ok (.iload 5, 2) := by decide +kernel
theorem dX5_layAll_52 : decode cX5_layAll 52 = .ok (.iconst 4, 1) := by decide +kernel
theorem dX5_layAll_53 : decode cX5_layAll 53 = .ok (.if_icmp .ge 96, 3) := by decide +kernel
theorem dX5_layAll_56 : decode cX5_layAll 56 = .ok (.aload_n 1, 1) := by decide +kernel
theorem dX5_layAll_57 : decode cX5_layAll 57 = .ok (.iload 4, 2) := by decide +kernel
theorem dX5_layAll_59 : decode cX5_layAll 59 = .ok (.iload 5, 2) := by decide +kernel
theorem dX5_layAll_61 : decode cX5_layAll 61 = .ok (.invokevirtual 90, 3) := by decide +kernel
theorem dX5_layAll_64 : decode cX5_layAll 64 = .ok (.istore 6, 2) := by decide +kernel
theorem dX5_layAll_66 : decode cX5_layAll 66 = .ok (.aload_n 2, 1) := by decide +kernel
theorem dX5_layAll_67 : decode cX5_layAll 67 = .ok (.iload 4, 2) := by decide +kernel
theorem dX5_layAll_69 : decode cX5_layAll 69 = .ok (.iload 5, 2) := by decide +kernel
theorem dX5_layAll_71 : decode cX5_layAll 71 = .ok (.invokevirtual 68, 3) := by decide +kernel
theorem dX5_layAll_74 : decode cX5_layAll 74 = .ok (.ifCond .ne 69, 3) := by decide +kernel
theorem dX5_layAll_77 : decode cX5_layAll 77 = .ok (.aload_n 0, 1) := by decide +kernel
theorem dX5_layAll_78 : decode cX5_layAll 78 = .ok (.getfield 18, 3) := by decide +kernel
theorem dX5_layAll_81 : decode cX5_layAll 81 = .ok (.iload 6, 2) := by decide +kernel
theorem dX5_layAll_83 : decode cX5_layAll 83 = .ok (.iaload, 1) := by decide +kernel
theorem dX5_layAll_84 : decode cX5_layAll 84 = .ok (.iconst (-1), 1) := by decide +kernel
theorem dX5_layAll_85 : decode cX5_layAll 85 = .ok (.if_icmp .ne 58, 3) := by decide +kernel
theorem dX5_layAll_88 : decode cX5_layAll 88 = .ok (.iload 5, 2) := by decide +kernel
theorem dX5_layAll_90 : decode cX5_layAll 90 = .ok (.aload_n 0, 1) := by decide +kernel
theorem dX5_layAll_91 : decode cX5_layAll 91 = .ok (.getfield 18, 3) := by decide +kernel
theorem dX5_layAll_94 : decode cX5_layAll 94 = .ok (.iload 4, 2) := by decide +kernel
theorem dX5_layAll_96 : decode cX5_layAll 96 = .ok (.iaload, 1) := by decide +kernel
theorem dX5_layAll_97 : decode cX5_layAll 97 = .ok (.iadd, 1) := by decide +kernel
theorem dX5_layAll_98 : decode cX5_layAll 98 = .ok (.iconst 3, 1) := by decide +kernel
theorem dX5_layAll_99 : decode cX5_layAll 99 = .ok (.iand, 1) := by decide +kernel
theorem dX5_layAll_100 : decode cX5_layAll 100 = .ok (.istore 7, 2) := by decide +kernel
theorem dX5_layAll_102 : decode cX5_layAll 102 = .ok (.aload_n 0, 1) := by decide +kernel
theorem dX5_layAll_103 : decode cX5_layAll 103 = .ok (.iload 6, 2) := by decide +kernel
theorem dX5_layAll_105 : decode cX5_layAll 105 = .ok (.aload_n 0, 1) := by decide +kernel
theorem dX5_layAll_106 : decode cX5_layAll 106 = .ok (.getfield 9, 3) := by decide +kernel
theorem dX5_layAll_109 : decode cX5_layAll 109 = .ok (.iload 4, 2) := by decide +kernel
theorem dX5_layAll_111 : decode cX5_layAll 111 = .ok (.iaload, 1) := by decide +kernel
theorem dX5_layAll_112 : decode cX5_layAll 112 = .ok (.iload 7, 2) := by decide +kernel
theorem dX5_layAll_114 : decode cX5_layAll 114 = .ok (.invokestatic 93, 3) := by decide +kernel
theorem dX5_layAll_117 : decode cX5_layAll 117 = .ok (.iadd, 1) := by decide +kernel
theorem dX5_layAll_118 : decode cX5_layAll 118 = .ok (.aload_n 0, 1) := by decide +kernel
theorem dX5_layAll_119 : decode cX5_layAll 119 = .ok (.getfield 15, 3) := by decide +kernel
theorem dX5_layAll_122 : decode cX5_layAll 122 = .ok (.iload 4, 2) := by decide +kernel
theorem dX5_layAll_124 : decode cX5_layAll 124 = .ok (.iaload, 1) := by decide +kernel
theorem dX5_layAll_125 : decode cX5_layAll 125 = .ok (.iload 7, 2) := by decide +kernel
theorem dX5_layAll_127 : decode cX5_layAll 127 = .ok (.invokestatic 96, 3) := by decide +kernel
theorem dX5_layAll_130 : decode cX5_layAll 130 = .ok (.iadd, 1) := by decide +kernel
theorem dX5_layAll_131 : decode cX5_layAll 131 = .ok (.aload_n 0, 1) := by decide +kernel
theorem dX5_layAll_132 : decode cX5_layAll 132 = .ok (.aload_n 1, 1) := by decide +kernel
theorem dX5_layAll_133 : decode cX5_layAll 133 = .ok (.iload 4, 2) := by decide +kernel
theorem dX5_layAll_135 : decode cX5_layAll 135 = .ok (.iload 5, 2) := by decide +kernel
theorem dX5_layAll_137 : decode cX5_layAll 137 = .ok (.invokevirtual 99, 3) := by decide +kernel
theorem dX5_layAll_140 : decode cX5_layAll 140 = .ok (.invokevirtual 87, 3) := by decide +kernel
theorem dX5_layAll_143 : decode cX5_layAll 143 = .ok (.iinc 5 1, 3) := by decide +kernel
theorem dX5_layAll_146 : decode cX5_layAll 146 = .ok (.goto (-96), 3) := by decide +kernel
theorem dX5_layAll_149 : decode cX5_layAll 149 = .ok (.iinc 3 1, 3) := by decide +kernel
theorem dX5_layAll_152 : decode cX5_layAll 152 = .ok (.goto (-129), 3) := by decide +kernel
theorem dX5_layAll_155 : decode cX5_layAll 155 = .ok (.return_, 1) := by decide +kernel
theorem dX5_layOne_0 : decode cX5_layOne 0 = .ok (.aload_n 0, 1) := by decide +kernel
theorem dX5_layOne_1 : decode cX5_layOne 1 = .ok (.getfield 9, 3) := by decide +kernel
theorem dX5_layOne_4 : decode cX5_layOne 4 = .ok (.iload_n 1, 1) := by decide +kernel
theorem dX5_layOne_5 : decode cX5_layOne 5 = .ok (.iload_n 2, 1) := by decide +kernel
theorem dX5_layOne_6 : decode cX5_layOne 6 = .ok (.iastore, 1) := by decide +kernel
theorem dX5_layOne_7 : decode cX5_layOne 7 = .ok (.aload_n 0, 1) := by decide +kernel
theorem dX5_layOne_8 : decode cX5_layOne 8 = .ok (.getfield 15, 3) := by decide +kernel
theorem dX5_layOne_11 : decode cX5_layOne 11 = .ok (.iload_n 1, 1) := by decide +kernel
theorem dX5_layOne_12 : decode cX5_layOne 12 = .ok (.iload_n 3, 1) := by decide +kernel
theorem dX5_layOne_13 : decode cX5_layOne 13 = .ok (.iastore, 1) := by decide +kernel
theorem dX5_layOne_14 : decode cX5_layOne 14 = .ok (.aload_n 0, 1) := by decide +kernel
theorem dX5_layOne_15 : decode cX5_layOne 15 = .ok (.getfield 18, 3) := by decide +kernel
theorem dX5_layOne_18 : decode cX5_layOne 18 = .ok (.iload_n 1, 1) := by decide +kernel
theorem dX5_layOne_19 : decode cX5_layOne 19 = .ok (.iload 4, 2) := by decide +kernel
theorem dX5_layOne_21 : decode cX5_layOne 21 = .ok (.iastore, 1) := by decide +kernel
theorem dX5_layOne_22 : decode cX5_layOne 22 = .ok (.aload_n 0, 1) := by decide +kernel
theorem dX5_layOne_23 : decode cX5_layOne 23 = .ok (.getfield 21, 3) := by decide +kernel
theorem dX5_layOne_26 : decode cX5_layOne 26 = .ok (.aload_n 0, 1) := by decide +kernel
theorem dX5_layOne_27 : decode cX5_layOne 27 = .ok (.getfield 28, 3) := by decide +kernel
theorem dX5_layOne_30 : decode cX5_layOne 30 = .ok (.iload_n 1, 1) := by decide +kernel
theorem dX5_layOne_31 : decode cX5_layOne 31 = .ok (.iastore, 1) := by decide +kernel
theorem dX5_layOne_32 : decode cX5_layOne 32 = .ok (.aload_n 0, 1) := by decide +kernel
theorem dX5_layOne_33 : decode cX5_layOne 33 = .ok (.dup, 1) := by decide +kernel
theorem dX5_layOne_34 : decode cX5_layOne 34 = .ok (.getfield 28, 3) := by decide +kernel
theorem dX5_layOne_37 : decode cX5_layOne 37 = .ok (.iconst 1, 1) := by decide +kernel
theorem dX5_layOne_38 : decode cX5_layOne 38 = .ok (.iadd, 1) := by decide +kernel
theorem dX5_layOne_39 : decode cX5_layOne 39 = .ok (.putfield 28, 3) := by decide +kernel
theorem dX5_layOne_42 : decode cX5_layOne 42 = .ok (.return_, 1) := by decide +kernel
theorem dX5_turnBeside_0 : decode cX5_turnBeside 0 = .ok (.iload_n 3, 1) := by decide +kernel
theorem dX5_turnBeside_1 : decode cX5_turnBeside 1 = .ok (.aload_n 0, 1) := by decide +kernel
theorem dX5_turnBeside_2 : decode cX5_turnBeside 2 = .ok (.getfield 18, 3) := by decide +kernel
theorem dX5_turnBeside_5 : decode cX5_turnBeside 5 = .ok (.iload_n 2, 1) := by decide +kernel
theorem dX5_turnBeside_6 : decode cX5_turnBeside 6 = .ok (.iaload, 1) := by decide +kernel
theorem dX5_turnBeside_7 : decode cX5_turnBeside 7 = .ok (.iadd, 1) := by decide +kernel
theorem dX5_turnBeside_8 : decode cX5_turnBeside 8 = .ok (.iconst 2, 1) := by decide +kernel
theorem dX5_turnBeside_9 : decode cX5_turnBeside 9 = .ok (.iadd, 1) := by decide +kernel
theorem dX5_turnBeside_10 : decode cX5_turnBeside 10 = .ok (.aload_n 1, 1) := by decide +kernel
theorem dX5_turnBeside_11 : decode cX5_turnBeside 11 = .ok (.iload_n 2, 1) := by decide +kernel
theorem dX5_turnBeside_12 : decode cX5_turnBeside 12 = .ok (.iload_n 3, 1) := by decide +kernel
theorem dX5_turnBeside_13 : decode cX5_turnBeside 13 = .ok (.invokevirtual 103, 3) := by decide +kernel
theorem dX5_turnBeside_16 : decode cX5_turnBeside 16 = .ok (.isub, 1) := by decide +kernel
theorem dX5_turnBeside_17 : decode cX5_turnBeside 17 = .ok (.iconst 3, 1) := by decide +kernel
theorem dX5_turnBeside_18 : decode cX5_turnBeside 18 = .ok (.iand, 1) := by decide +kernel
theorem dX5_turnBeside_19 : decode cX5_turnBeside 19 = .ok (.ireturn, 1) := by decide +kernel
theorem dX5_agrees_0 : decode cX5_agrees 0 = .ok (.iconst 0, 1) := by decide +kernel
theorem dX5_agrees_1 : decode cX5_agrees 1 = .ok (.istore_n 3, 1) := by decide +kernel
theorem dX5_agrees_2 : decode cX5_agrees 2 = .ok (.iload_n 3, 1) := by decide +kernel
theorem dX5_agrees_3 : decode cX5_agrees 3 = .ok (.aload_n 0, 1) := by decide +kernel
theorem dX5_agrees_4 : decode cX5_agrees 4 = .ok (.getfield 24, 3) := by decide +kernel
theorem dX5_agrees_7 : decode cX5_agrees 7 = .ok (.if_icmp .ge 47, 3) := by decide +kernel
theorem dX5_agrees_10 : decode cX5_agrees 10 = .ok (.iconst 0, 1) := by decide +kernel
theorem dX5_agrees_11 : decode cX5_agrees 11 = .ok (.istore 4, 2) := by decide +kernel
theorem dX5_agrees_13 : decode cX5_agrees 13 = .ok (.iload 4, 2) := by decide +kernel
theorem dX5_agrees_15 : decode cX5_agrees 15 = .ok (.iconst 4, 1) := by decide +kernel
theorem dX5_agrees_16 : decode cX5_agrees 16 = .ok (.if_icmp .ge 32, 3) := by decide +kernel
theorem dX5_agrees_19 : decode cX5_agrees 19 = .ok (.aload_n 2, 1) := by decide +kernel
theorem dX5_agrees_20 : decode cX5_agrees 20 = .ok (.iload_n 3, 1) := by decide +kernel
theorem dX5_agrees_21 : decode cX5_agrees 21 = .ok (.iload 4, 2) := by decide +kernel
theorem dX5_agrees_23 : decode cX5_agrees 23 = .ok (.invokevirtual 68, 3) := by decide +kernel
theorem dX5_agrees_26 : decode cX5_agrees 26 = .ok (.ifCond .ne 16, 3) := by decide +kernel
theorem dX5_agrees_29 : decode cX5_agrees 29 = .ok (.aload_n 0, 1) := by decide +kernel
theorem dX5_agrees_30 : decode cX5_agrees 30 = .ok (.aload_n 1, 1) := by decide +kernel
theorem dX5_agrees_31 : decode cX5_agrees 31 = .ok (.iload_n 3, 1) := by decide +kernel
theorem dX5_agrees_32 : decode cX5_agrees 32 = .ok (.iload 4, 2) := by decide +kernel
theorem dX5_agrees_34 : decode cX5_agrees 34 = .ok (.invokevirtual 106, 3) := by decide +kernel
theorem dX5_agrees_37 : decode cX5_agrees 37 = .ok (.ifCond .ne 5, 3) := by decide +kernel
theorem dX5_agrees_40 : decode cX5_agrees 40 = .ok (.iconst 0, 1) := by decide +kernel
theorem dX5_agrees_41 : decode cX5_agrees 41 = .ok (.ireturn, 1) := by decide +kernel
theorem dX5_agrees_42 : decode cX5_agrees 42 = .ok (.iinc 4 1, 3) := by decide +kernel
theorem dX5_agrees_45 : decode cX5_agrees 45 = .ok (.goto (-32), 3) := by decide +kernel
theorem dX5_agrees_48 : decode cX5_agrees 48 = .ok (.iinc 3 1, 3) := by decide +kernel
theorem dX5_agrees_51 : decode cX5_agrees 51 = .ok (.goto (-49), 3) := by decide +kernel
theorem dX5_agrees_54 : decode cX5_agrees 54 = .ok (.iconst 1, 1) := by decide +kernel
theorem dX5_agrees_55 : decode cX5_agrees 55 = .ok (.ireturn, 1) := by decide +kernel
theorem dX5_liesBeside_0 : decode cX5_liesBeside 0 = .ok (.aload_n 1, 1) := by decide +kernel
theorem dX5_liesBeside_1 : decode cX5_liesBeside 1 = .ok (.iload_n 2, 1) := by decide +kernel
theorem dX5_liesBeside_2 : decode cX5_liesBeside 2 = .ok (.iload_n 3, 1) := by decide +kernel
theorem dX5_liesBeside_3 : decode cX5_liesBeside 3 = .ok (.invokevirtual 90, 3) := by decide +kernel
theorem dX5_liesBeside_6 : decode cX5_liesBeside 6 = .ok (.istore 4, 2) := by decide +kernel
theorem dX5_liesBeside_8 : decode cX5_liesBeside 8 = .ok (.iload_n 3, 1) := by decide +kernel
theorem dX5_liesBeside_9 : decode cX5_liesBeside 9 = .ok (.aload_n 0, 1) := by decide +kernel
theorem dX5_liesBeside_10 : decode cX5_liesBeside 10 = .ok (.getfield 18, 3) := by decide +kernel
theorem dX5_liesBeside_13 : decode cX5_liesBeside 13 = .ok (.iload_n 2, 1) := by decide +kernel
theorem dX5_liesBeside_14 : decode cX5_liesBeside 14 = .ok (.iaload, 1) := by decide +kernel
theorem dX5_liesBeside_15 : decode cX5_liesBeside 15 = .ok (.iadd, 1) := by decide +kernel
theorem dX5_liesBeside_16 : decode cX5_liesBeside 16 = .ok (.iconst 3, 1) := by decide +kernel
theorem dX5_liesBeside_17 : decode cX5_liesBeside 17 = .ok (.iand, 1) := by decide +kernel
theorem dX5_liesBeside_18 : decode cX5_liesBeside 18 = .ok (.istore 5, 2) := by decide +kernel
theorem dX5_liesBeside_20 : decode cX5_liesBeside 20 = .ok (.aload_n 0, 1) := by decide +kernel
theorem dX5_liesBeside_21 : decode cX5_liesBeside 21 = .ok (.getfield 9, 3) := by decide +kernel
theorem dX5_liesBeside_24 : decode cX5_liesBeside 24 = .ok (.iload 4, 2) := by decide +kernel
theorem dX5_liesBeside_26 : decode cX5_liesBeside 26 = .ok (.iaload, 1) := by decide +kernel
theorem dX5_liesBeside_27 : decode cX5_liesBeside 27 = .ok (.aload_n 0, 1) := by decide +kernel
theorem dX5_liesBeside_28 : decode cX5_liesBeside 28 = .ok (.getfield 9, 3) := by decide +kernel
theorem dX5_liesBeside_31 : decode cX5_liesBeside 31 = .ok (.iload_n 2, 1) := by decide +kernel
theorem dX5_liesBeside_32 : decode cX5_liesBeside 32 = .ok (.iaload, 1) := by decide +kernel
theorem dX5_liesBeside_33 : decode cX5_liesBeside 33 = .ok (.iload 5, 2) := by decide +kernel
theorem dX5_liesBeside_35 : decode cX5_liesBeside 35 = .ok (.invokestatic 93, 3) := by decide +kernel
theorem dX5_liesBeside_38 : decode cX5_liesBeside 38 = .ok (.iadd, 1) := by decide +kernel
theorem dX5_liesBeside_39 : decode cX5_liesBeside 39 = .ok (.if_icmp .ne 46, 3) := by decide +kernel
theorem dX5_liesBeside_42 : decode cX5_liesBeside 42 = .ok (.aload_n 0, 1) := by decide +kernel
theorem dX5_liesBeside_43 : decode cX5_liesBeside 43 = .ok (.getfield 15, 3) := by decide +kernel
theorem dX5_liesBeside_46 : decode cX5_liesBeside 46 = .ok (.iload 4, 2) := by decide +kernel
theorem dX5_liesBeside_48 : decode cX5_liesBeside 48 = .ok (.iaload, 1) := by decide +kernel
theorem dX5_liesBeside_49 : decode cX5_liesBeside 49 = .ok (.aload_n 0, 1) := by decide +kernel
theorem dX5_liesBeside_50 : decode cX5_liesBeside 50 = .ok (.getfield 15, 3) := by decide +kernel
theorem dX5_liesBeside_53 : decode cX5_liesBeside 53 = .ok (.iload_n 2, 1) := by decide +kernel
theorem dX5_liesBeside_54 : decode cX5_liesBeside 54 = .ok (.iaload, 1) := by decide +kernel
theorem dX5_liesBeside_55 : decode cX5_liesBeside 55 = .ok (.iload 5, 2) := by decide +kernel
theorem dX5_liesBeside_57 : decode cX5_liesBeside 57 = .ok (.invokestatic 96, 3) := by decide +kernel
theorem dX5_liesBeside_60 : decode cX5_liesBeside 60 = .ok (.iadd, 1) := by decide +kernel
theorem dX5_liesBeside_61 : decode cX5_liesBeside 61 = .ok (.if_icmp .ne 24, 3) := by decide +kernel
theorem dX5_liesBeside_64 : decode cX5_liesBeside 64 = .ok (.aload_n 0, 1) := by decide +kernel
theorem dX5_liesBeside_65 : decode cX5_liesBeside 65 = .ok (.getfield 18, 3) := by decide +kernel
theorem dX5_liesBeside_68 : decode cX5_liesBeside 68 = .ok (.iload 4, 2) := by decide +kernel
theorem dX5_liesBeside_70 : decode cX5_liesBeside 70 = .ok (.iaload, 1) := by decide +kernel
theorem dX5_liesBeside_71 : decode cX5_liesBeside 71 = .ok (.aload_n 0, 1) := by decide +kernel
theorem dX5_liesBeside_72 : decode cX5_liesBeside 72 = .ok (.aload_n 1, 1) := by decide +kernel
theorem dX5_liesBeside_73 : decode cX5_liesBeside 73 = .ok (.iload_n 2, 1) := by decide +kernel
theorem dX5_liesBeside_74 : decode cX5_liesBeside 74 = .ok (.iload_n 3, 1) := by decide +kernel
theorem dX5_liesBeside_75 : decode cX5_liesBeside 75 = .ok (.invokevirtual 99, 3) := by decide +kernel
theorem dX5_liesBeside_78 : decode cX5_liesBeside 78 = .ok (.if_icmp .ne 7, 3) := by decide +kernel
theorem dX5_liesBeside_81 : decode cX5_liesBeside 81 = .ok (.iconst 1, 1) := by decide +kernel
theorem dX5_liesBeside_82 : decode cX5_liesBeside 82 = .ok (.goto 4, 3) := by decide +kernel
theorem dX5_liesBeside_85 : decode cX5_liesBeside 85 = .ok (.iconst 0, 1) := by decide +kernel
theorem dX5_liesBeside_86 : decode cX5_liesBeside 86 = .ok (.ireturn, 1) := by decide +kernel
theorem dX5_overlaps_0 : decode cX5_overlaps 0 = .ok (.iconst 0, 1) := by decide +kernel
theorem dX5_overlaps_1 : decode cX5_overlaps 1 = .ok (.istore_n 1, 1) := by decide +kernel
theorem dX5_overlaps_2 : decode cX5_overlaps 2 = .ok (.iload_n 1, 1) := by decide +kernel
theorem dX5_overlaps_3 : decode cX5_overlaps 3 = .ok (.aload_n 0, 1) := by decide +kernel
theorem dX5_overlaps_4 : decode cX5_overlaps 4 = .ok (.getfield 24, 3) := by decide +kernel
theorem dX5_overlaps_7 : decode cX5_overlaps 7 = .ok (.if_icmp .ge 54, 3) := by decide +kernel
theorem dX5_overlaps_10 : decode cX5_overlaps 10 = .ok (.iconst 0, 1) := by decide +kernel
theorem dX5_overlaps_11 : decode cX5_overlaps 11 = .ok (.istore_n 2, 1) := by decide +kernel
theorem dX5_overlaps_12 : decode cX5_overlaps 12 = .ok (.iload_n 2, 1) := by decide +kernel
theorem dX5_overlaps_13 : decode cX5_overlaps 13 = .ok (.iload_n 1, 1) := by decide +kernel
theorem dX5_overlaps_14 : decode cX5_overlaps 14 = .ok (.if_icmp .ge 41, 3) := by decide +kernel
theorem dX5_overlaps_17 : decode cX5_overlaps 17 = .ok (.aload_n 0, 1) := by decide +kernel
theorem dX5_overlaps_18 : decode cX5_overlaps 18 = .ok (.getfield 9, 3) := by decide +kernel
theorem dX5_overlaps_21 : decode cX5_overlaps 21 = .ok (.iload_n 1, 1) := by decide +kernel
theorem dX5_overlaps_22 : decode cX5_overlaps 22 = .ok (.iaload, 1) := by decide +kernel
theorem dX5_overlaps_23 : decode cX5_overlaps 23 = .ok (.aload_n 0, 1) := by decide +kernel
theorem dX5_overlaps_24 : decode cX5_overlaps 24 = .ok (.getfield 9, 3) := by decide +kernel
theorem dX5_overlaps_27 : decode cX5_overlaps 27 = .ok (.iload_n 2, 1) := by decide +kernel
theorem dX5_overlaps_28 : decode cX5_overlaps 28 = .ok (.iaload, 1) := by decide +kernel
theorem dX5_overlaps_29 : decode cX5_overlaps 29 = .ok (.if_icmp .ne 20, 3) := by decide +kernel
theorem dX5_overlaps_32 : decode cX5_overlaps 32 = .ok (.aload_n 0, 1) := by decide +kernel
theorem dX5_overlaps_33 : decode cX5_overlaps 33 = .ok (.getfield 15, 3) := by decide +kernel
theorem dX5_overlaps_36 : decode cX5_overlaps 36 = .ok (.iload_n 1, 1) := by decide +kernel
theorem dX5_overlaps_37 : decode cX5_overlaps 37 = .ok (.iaload, 1) := by decide +kernel
theorem dX5_overlaps_38 : decode cX5_overlaps 38 = .ok (.aload_n 0, 1) := by decide +kernel
theorem dX5_overlaps_39 : decode cX5_overlaps 39 = .ok (.getfield 15, 3) := by decide +kernel
theorem dX5_overlaps_42 : decode cX5_overlaps 42 = .ok (.iload_n 2, 1) := by decide +kernel
theorem dX5_overlaps_43 : decode cX5_overlaps 43 = .ok (.iaload, 1) := by decide +kernel
theorem dX5_overlaps_44 : decode cX5_overlaps 44 = .ok (.if_icmp .ne 5, 3) := by decide +kernel
theorem dX5_overlaps_47 : decode cX5_overlaps 47 = .ok (.iconst 1, 1) := by decide +kernel
theorem dX5_overlaps_48 : decode cX5_overlaps 48 = .ok (.ireturn, 1) := by decide +kernel
theorem dX5_overlaps_49 : decode cX5_overlaps 49 = .ok (.iinc 2 1, 3) := by decide +kernel
theorem dX5_overlaps_52 : decode cX5_overlaps 52 = .ok (.goto (-40), 3) := by decide +kernel
theorem dX5_overlaps_55 : decode cX5_overlaps 55 = .ok (.iinc 1 1, 3) := by decide +kernel
theorem dX5_overlaps_58 : decode cX5_overlaps 58 = .ok (.goto (-56), 3) := by decide +kernel
theorem dX5_overlaps_61 : decode cX5_overlaps 61 = .ok (.iconst 0, 1) := by decide +kernel
theorem dX5_overlaps_62 : decode cX5_overlaps 62 = .ok (.ireturn, 1) := by decide +kernel
theorem dX6_init_0 : decode cX6_init 0 = .ok (.aload_n 0, 1) := by decide +kernel
theorem dX6_init_1 : decode cX6_init 1 = .ok (.invokespecial 1, 3) := by decide +kernel
theorem dX6_init_4 : decode cX6_init 4 = .ok (.aload_n 0, 1) := by decide +kernel
theorem dX6_init_5 : decode cX6_init 5 = .ok (.sipush 240, 3) := by decide +kernel
theorem dX6_init_8 : decode cX6_init 8 = .ok (.newarray .int, 2) := by decide +kernel
theorem dX6_init_10 : decode cX6_init 10 = .ok (.putfield 9, 3) := by decide +kernel
theorem dX6_init_13 : decode cX6_init 13 = .ok (.aload_n 0, 1) := by decide +kernel
theorem dX6_init_14 : decode cX6_init 14 = .ok (.bipush 60, 2) := by decide +kernel
theorem dX6_init_16 : decode cX6_init 16 = .ok (.newarray .int, 2) := by decide +kernel
theorem dX6_init_18 : decode cX6_init 18 = .ok (.putfield 15, 3) := by decide +kernel
theorem dX6_init_21 : decode cX6_init 21 = .ok (.aload_n 0, 1) := by decide +kernel
theorem dX6_init_22 : decode cX6_init 22 = .ok (.bipush 60, 2) := by decide +kernel
theorem dX6_init_24 : decode cX6_init 24 = .ok (.newarray .int, 2) := by decide +kernel
theorem dX6_init_26 : decode cX6_init 26 = .ok (.putfield 18, 3) := by decide +kernel
theorem dX6_init_29 : decode cX6_init 29 = .ok (.aload_n 0, 1) := by decide +kernel
theorem dX6_init_30 : decode cX6_init 30 = .ok (.iconst 0, 1) := by decide +kernel
theorem dX6_init_31 : decode cX6_init 31 = .ok (.putfield 21, 3) := by decide +kernel
theorem dX6_init_34 : decode cX6_init 34 = .ok (.aload_n 0, 1) := by decide +kernel
theorem dX6_init_35 : decode cX6_init 35 = .ok (.iconst 0, 1) := by decide +kernel
theorem dX6_init_36 : decode cX6_init 36 = .ok (.putfield 25, 3) := by decide +kernel
theorem dX6_init_39 : decode cX6_init 39 = .ok (.return_, 1) := by decide +kernel
theorem dX6_trace_0 : decode cX6_trace 0 = .ok (.aload_n 0, 1) := by decide +kernel
theorem dX6_trace_1 : decode cX6_trace 1 = .ok (.aload_n 1, 1) := by decide +kernel
theorem dX6_trace_2 : decode cX6_trace 2 = .ok (.invokevirtual 28, 3) := by decide +kernel
theorem dX6_trace_5 : decode cX6_trace 5 = .ok (.putfield 21, 3) := by decide +kernel
theorem dX6_trace_8 : decode cX6_trace 8 = .ok (.iconst 0, 1) := by decide +kernel
theorem dX6_trace_9 : decode cX6_trace 9 = .ok (.istore_n 2, 1) := by decide +kernel
theorem dX6_trace_10 : decode cX6_trace 10 = .ok (.iload_n 2, 1) := by decide +kernel
theorem dX6_trace_11 : decode cX6_trace 11 = .ok (.aload_n 0, 1) := by decide +kernel
theorem dX6_trace_12 : decode cX6_trace 12 = .ok (.getfield 21, 3) := by decide +kernel
theorem dX6_trace_15 : decode cX6_trace 15 = .ok (.if_icmp .ge 63, 3) := by decide +kernel
theorem dX6_trace_18 : decode cX6_trace 18 = .ok (.iconst 0, 1) := by decide +kernel
theorem dX6_trace_19 : decode cX6_trace 19 = .ok (.istore_n 3, 1) := by decide +kernel
theorem dX6_trace_20 : decode cX6_trace 20 = .ok (.iload_n 3, 1) := by decide +kernel
theorem dX6_trace_21 : decode cX6_trace 21 = .ok (.iconst 4, 1) := by decide +kernel
theorem dX6_trace_22 : decode cX6_trace 22 = .ok (.if_icmp .ge 50, 3) := by decide +kernel
theorem dX6_trace_25 : decode cX6_trace 25 = .ok (.aload_n 1, 1) := by decide +kernel
theorem dX6_trace_26 : decode cX6_trace 26 = .ok (.iload_n 2, 1) := by decide +kernel
theorem dX6_trace_27 : decode cX6_trace 27 = .ok (.iload_n 3, 1) := by decide +kernel
theorem dX6_trace_28 : decode cX6_trace 28 = .ok (.invokevirtual 32, 3) := by decide +kernel
theorem dX6_trace_31 : decode cX6_trace 31 = .ok (.ifCond .eq 7, 3) := by decide +kernel
theorem dX6_trace_34 : decode cX6_trace 34 = .ok (.iconst 1, 1) := by decide +kernel
theorem dX6_trace_35 : decode cX6_trace 35 = .ok (.goto 4, 3) := by decide +kernel
theorem dX6_trace_38 : decode cX6_trace 38 = .ok (.iconst 0, 1) := by decide +kernel
theorem dX6_trace_39 : decode cX6_trace 39 = .ok (.istore 4, 2) := by decide +kernel
theorem dX6_trace_41 : decode cX6_trace 41 = .ok (.aload_n 0, 1) := by decide +kernel
theorem dX6_trace_42 : decode cX6_trace 42 = .ok (.getfield 9, 3) := by decide +kernel
theorem dX6_trace_45 : decode cX6_trace 45 = .ok (.iconst 4, 1) := by decide +kernel
theorem dX6_trace_46 : decode cX6_trace 46 = .ok (.iload_n 2, 1) := by decide +kernel
theorem dX6_trace_47 : decode cX6_trace 47 = .ok (.imul, 1) := by decide +kernel
theorem dX6_trace_48 : decode cX6_trace 48 = .ok (.iload_n 3, 1) := by decide +kernel
theorem dX6_trace_49 : decode cX6_trace 49 = .ok (.iadd, 1) := by decide +kernel
theorem dX6_trace_50 : decode cX6_trace 50 = .ok (.iload 4, 2) := by decide +kernel
theorem dX6_trace_52 : decode cX6_trace 52 = .ok (.ifCond .eq 12, 3) := by decide +kernel
theorem dX6_trace_55 : decode cX6_trace 55 = .ok (.aload_n 1, 1) := by decide +kernel
theorem dX6_trace_56 : decode cX6_trace 56 = .ok (.iload_n 2, 1) := by decide +kernel
theorem dX6_trace_57 : decode cX6_trace 57 = .ok (.iload_n 3, 1) := by decide +kernel
theorem dX6_trace_58 : decode cX6_trace 58 = .ok (.invokevirtual 36, 3) := by decide +kernel
theorem dX6_trace_61 : decode cX6_trace 61 = .ok (.goto 4, 3) := by decide +kernel
theorem dX6_trace_64 : decode cX6_trace 64 = .ok (.iconst (-1), 1) := by decide +kernel
theorem dX6_trace_65 : decode cX6_trace 65 = .ok (.iastore, 1) := by decide +kernel
theorem dX6_trace_66 : decode cX6_trace 66 = .ok (.iinc 3 1, 3) := by decide +kernel
theorem dX6_trace_69 : decode cX6_trace 69 = .ok (.goto (-49), 3) := by decide +kernel
theorem dX6_trace_72 : decode cX6_trace 72 = .ok (.iinc 2 1, 3) := by decide +kernel
theorem dX6_trace_75 : decode cX6_trace 75 = .ok (.goto (-65), 3) := by decide +kernel
theorem dX6_trace_78 : decode cX6_trace 78 = .ok (.aload_n 0, 1) := by decide +kernel
theorem dX6_trace_79 : decode cX6_trace 79 = .ok (.invokevirtual 39, 3) := by decide +kernel
theorem dX6_trace_82 : decode cX6_trace 82 = .ok (.return_, 1) := by decide +kernel
theorem dX6_reachAll_0 : decode cX6_reachAll 0 = .ok (.aload_n 0, 1) := by decide +kernel
theorem dX6_reachAll_1 : decode cX6_reachAll 1 = .ok (.getfield 18, 3) := by decide +kernel
theorem dX6_reachAll_4 : decode cX6_reachAll 4 = .ok (.iconst (-1), 1) := by decide +kernel
theorem dX6_reachAll_5 : decode cX6_reachAll 5 = .ok (.invokestatic 42, 3) := by decide +kernel
theorem dX6_reachAll_8 : decode cX6_reachAll 8 = .ok (.aload_n 0, 1) := by decide +kernel
theorem dX6_reachAll_9 : decode cX6_reachAll 9 = .ok (.aload_n 0, 1) := by decide +kernel
theorem dX6_reachAll_10 : decode cX6_reachAll 10 = .ok (.getfield 21, 3) := by decide +kernel
theorem dX6_reachAll_13 : decode cX6_reachAll 13 = .ok (.iconst 1, 1) := by decide +kernel
theorem dX6_reachAll_14 : decode cX6_reachAll 14 = .ok (.invokestatic 48, 3) := by decide +kernel
theorem dX6_reachAll_17 : decode cX6_reachAll 17 = .ok (.putfield 25, 3) := by decide +kernel
theorem dX6_reachAll_20 : decode cX6_reachAll 20 = .ok (.aload_n 0, 1) := by decide +kernel
theorem dX6_reachAll_21 : decode cX6_reachAll 21 = .ok (.getfield 15, 3) := by decide +kernel
theorem dX6_reachAll_24 : decode cX6_reachAll 24 = .ok (.iconst 0, 1) := by decide +kernel
theorem dX6_reachAll_25 : decode cX6_reachAll 25 = .ok (.iconst 0, 1) := by decide +kernel
theorem dX6_reachAll_26 : decode cX6_reachAll 26 = .ok (.iastore, 1) := by decide +kernel
theorem dX6_reachAll_27 : decode cX6_reachAll 27 = .ok (.iconst 0, 1) := by decide +kernel
theorem dX6_reachAll_28 : decode cX6_reachAll 28 = .ok (.istore_n 1, 1) := by decide +kernel
theorem dX6_reachAll_29 : decode cX6_reachAll 29 = .ok (.iload_n 1, 1) := by decide +kernel
theorem dX6_reachAll_30 : decode cX6_reachAll 30 = .ok (.aload_n 0, 1) := by decide +kernel
theorem dX6_reachAll_31 : decode cX6_reachAll 31 = .ok (.getfield 21, 3) := by decide +kernel
theorem dX6_reachAll_34 : decode cX6_reachAll 34 = .ok (.if_icmp .ge 94, 3) := by decide +kernel
theorem dX6_reachAll_37 : decode cX6_reachAll 37 = .ok (.iload_n 1, 1) := by decide +kernel
theorem dX6_reachAll_38 : decode cX6_reachAll 38 = .ok (.aload_n 0, 1) := by decide +kernel
theorem dX6_reachAll_39 : decode cX6_reachAll 39 = .ok (.getfield 25, 3) := by decide +kernel
theorem dX6_reachAll_42 : decode cX6_reachAll 42 = .ok (.if_icmp .ge 86, 3) := by decide +kernel
theorem dX6_reachAll_45 : decode cX6_reachAll 45 = .ok (.iconst 0, 1) := by decide +kernel
theorem dX6_reachAll_46 : decode cX6_reachAll 46 = .ok (.istore_n 2, 1) := by decide +kernel
theorem dX6_reachAll_47 : decode cX6_reachAll 47 = .ok (.iload_n 2, 1) := by decide +kernel
theorem dX6_reachAll_48 : decode cX6_reachAll 48 = .ok (.iconst 4, 1) := by decide +kernel
theorem dX6_reachAll_49 : decode cX6_reachAll 49 = .ok (.if_icmp .ge 73, 3) := by decide +kernel
theorem dX6_reachAll_52 : decode cX6_reachAll 52 = .ok (.iconst 4, 1) := by decide +kernel
theorem dX6_reachAll_53 : decode cX6_reachAll 53 = .ok (.aload_n 0, 1) := by decide +kernel
theorem dX6_reachAll_54 : decode cX6_reachAll 54 = .ok (.getfield 15, 3) := by decide +kernel
theorem dX6_reachAll_57 : decode cX6_reachAll 57 = .ok (.iload_n 1, 1) := by decide +kernel
theorem dX6_reachAll_58 : decode cX6_reachAll 58 = .ok (.iaload, 1) := by decide +kernel
theorem dX6_reachAll_59 : decode cX6_reachAll 59 = .ok (.imul, 1) := by decide +kernel
theorem dX6_reachAll_60 : decode cX6_reachAll 60 = .ok (.iload_n 2, 1) := by decide +kernel
theorem dX6_reachAll_61 : decode cX6_reachAll 61 = .ok (.iadd, 1) := by decide +kernel
theorem dX6_reachAll_62 : decode cX6_reachAll 62 = .ok (.istore_n 3, 1) := by decide +kernel
theorem dX6_reachAll_63 : decode cX6_reachAll 63 = .ok (.aload_n 0, 1) := by decide +kernel
theorem dX6_reachAll_64 : decode cX6_reachAll 64 = .ok (.getfield 9, 3) := by decide +kernel
theorem dX6_reachAll_67 : decode cX6_reachAll 67 = .ok (.iload_n 3, 1) := by decide +kernel
theorem dX6_reachAll_68 : decode cX6_reachAll 68 = .ok (.iaload, 1) := by decide +kernel
theorem dX6_reachAll_69 : decode cX6_reachAll 69 = .ok (.istore 4, 2) := by decide +kernel
theorem dX6_reachAll_71 : decode cX6_reachAll 71 = .ok (.iload 4, 2) := by decide +kernel
theorem dX6_reachAll_73 : decode cX6_reachAll 73 = .ok (.ifCond .le 43, 3) := by decide +kernel
theorem dX6_reachAll_76 : decode cX6_reachAll 76 = .ok (.aload_n 0, 1) := by decide +kernel
theorem dX6_reachAll_77 : decode cX6_reachAll 77 = .ok (.getfield 18, 3) := by decide +kernel
theorem dX6_reachAll_80 : decode cX6_reachAll 80 = .ok (.iload 4, 2) := by decide +kernel
theorem dX6_reachAll_82 : decode cX6_reachAll 82 = .ok (.iaload, 1) := by decide +kernel
theorem dX6_reachAll_83 : decode cX6_reachAll 83 = .ok (.iconst (-1), 1) := by decide +kernel
theorem dX6_reachAll_84 : decode cX6_reachAll 84 = .ok (.if_icmp .ne 32, 3) := by decide +kernel
theorem dX6_reachAll_87 : decode cX6_reachAll 87 = .ok (.aload_n 0, 1) := by decide +kernel
theorem dX6_reachAll_88 : decode cX6_reachAll 88 = .ok (.getfield 18, 3) := by decide +kernel
theorem dX6_reachAll_91 : decode cX6_reachAll 91 = .ok (.iload 4, 2) := by decide +kernel
theorem dX6_reachAll_93 : decode cX6_reachAll 93 = .ok (.iload_n 3, 1) := by decide +kernel
theorem dX6_reachAll_94 : decode cX6_reachAll 94 = .ok (.iastore, 1) := by decide +kernel
theorem dX6_reachAll_95 : decode cX6_reachAll 95 = .ok (.aload_n 0, 1) := by decide +kernel
theorem dX6_reachAll_96 : decode cX6_reachAll 96 = .ok (.getfield 15, 3) := by decide +kernel
theorem dX6_reachAll_99 : decode cX6_reachAll 99 = .ok (.aload_n 0, 1) := by decide +kernel
theorem dX6_reachAll_100 : decode cX6_reachAll 100 = .ok (.getfield 25, 3) := by decide +kernel
theorem dX6_reachAll_103 : decode cX6_reachAll 103 = .ok (.iload 4, 2) := by decide +kernel
theorem dX6_reachAll_105 : decode cX6_reachAll 105 = .ok (.iastore, 1) := by decide +kernel
theorem dX6_reachAll_106 : decode cX6_reachAll 106 = .ok (.aload_n 0, 1) := by decide +kernel
theorem dX6_reachAll_107 : decode cX6_reachAll 107 = .ok (.dup, 1) := by decide +kernel
theorem dX6_reachAll_108 : decode cX6_reachAll 108 = .ok (.getfield 25, 3) := by decide +kernel
theorem dX6_reachAll_111 : decode cX6_reachAll 111 = .ok (.iconst 1, 1) := by decide +kernel
theorem dX6_reachAll_112 : decode cX6_reachAll 112 = .ok (.iadd, 1) := by decide +kernel
theorem dX6_reachAll_113 : decode cX6_reachAll 113 = .ok (.putfield 25, 3) := by decide +kernel
theorem dX6_reachAll_116 : decode cX6_reachAll 116 = .ok (.iinc 2 1, 3) := by decide +kernel
theorem dX6_reachAll_119 : decode cX6_reachAll 119 = .ok (.goto (-72), 3) := by decide +kernel
theorem dX6_reachAll_122 : decode cX6_reachAll 122 = .ok (.iinc 1 1, 3) := by decide +kernel
theorem dX6_reachAll_125 : decode cX6_reachAll 125 = .ok (.goto (-96), 3) := by decide +kernel
theorem dX6_reachAll_128 : decode cX6_reachAll 128 = .ok (.return_, 1) := by decide +kernel
theorem dX6_hangTogether_0 : decode cX6_hangTogether 0 = .ok (.aload_n 0, 1) := by decide +kernel
theorem dX6_hangTogether_1 : decode cX6_hangTogether 1 = .ok (.getfield 21, 3) := by decide +kernel
theorem dX6_hangTogether_4 : decode cX6_hangTogether 4 = .ok (.ifCond .le 18, 3) := by decide +kernel
theorem dX6_hangTogether_7 : decode cX6_hangTogether 7 = .ok (.aload_n 0, 1) := by decide +kernel
theorem dX6_hangTogether_8 : decode cX6_hangTogether 8 = .ok (.getfield 25, 3) := by decide +kernel
theorem dX6_hangTogether_11 : decode cX6_hangTogether 11 = .ok (.aload_n 0, 1) := by decide +kernel
theorem dX6_hangTogether_12 : decode cX6_hangTogether 12 = .ok (.getfield 21, 3) := by decide +kernel
theorem dX6_hangTogether_15 : decode cX6_hangTogether 15 = .ok (.if_icmp .ne 7, 3) := by decide +kernel
theorem dX6_hangTogether_18 : decode cX6_hangTogether 18 = .ok (.iconst 1, 1) := by decide +kernel
theorem dX6_hangTogether_19 : decode cX6_hangTogether 19 = .ok (.goto 4, 3) := by decide +kernel
theorem dX6_hangTogether_22 : decode cX6_hangTogether 22 = .ok (.iconst 0, 1) := by decide +kernel
theorem dX6_hangTogether_23 : decode cX6_hangTogether 23 = .ok (.ireturn, 1) := by decide +kernel
theorem dX6_next_0 : decode cX6_next 0 = .ok (.aload_n 0, 1) := by decide +kernel
theorem dX6_next_1 : decode cX6_next 1 = .ok (.getfield 9, 3) := by decide +kernel
theorem dX6_next_4 : decode cX6_next 4 = .ok (.iconst 4, 1) := by decide +kernel
theorem dX6_next_5 : decode cX6_next 5 = .ok (.iload_n 1, 1) := by decide +kernel
theorem dX6_next_6 : decode cX6_next 6 = .ok (.imul, 1) := by decide +kernel
theorem dX6_next_7 : decode cX6_next 7 = .ok (.iload_n 2, 1) := by decide +kernel
theorem dX6_next_8 : decode cX6_next 8 = .ok (.iadd, 1) := by decide +kernel
theorem dX6_next_9 : decode cX6_next 9 = .ok (.iaload, 1) := by decide +kernel
theorem dX6_next_10 : decode cX6_next 10 = .ok (.ireturn, 1) := by decide +kernel
theorem dX6_inOrder_0 : decode cX6_inOrder 0 = .ok (.aload_n 0, 1) := by decide +kernel
theorem dX6_inOrder_1 : decode cX6_inOrder 1 = .ok (.getfield 15, 3) := by decide +kernel
theorem dX6_inOrder_4 : decode cX6_inOrder 4 = .ok (.iload_n 1, 1) := by decide +kernel
theorem dX6_inOrder_5 : decode cX6_inOrder 5 = .ok (.iaload, 1) := by decide +kernel
theorem dX6_inOrder_6 : decode cX6_inOrder 6 = .ok (.ireturn, 1) := by decide +kernel
theorem dX6_reachedFrom_0 : decode cX6_reachedFrom 0 = .ok (.aload_n 0, 1) := by decide +kernel
theorem dX6_reachedFrom_1 : decode cX6_reachedFrom 1 = .ok (.getfield 18, 3) := by decide +kernel
theorem dX6_reachedFrom_4 : decode cX6_reachedFrom 4 = .ok (.iload_n 1, 1) := by decide +kernel
theorem dX6_reachedFrom_5 : decode cX6_reachedFrom 5 = .ok (.iaload, 1) := by decide +kernel
theorem dX6_reachedFrom_6 : decode cX6_reachedFrom 6 = .ok (.iconst 2, 1) := by decide +kernel
theorem dX6_reachedFrom_7 : decode cX6_reachedFrom 7 = .ok (.ishr, 1) := by decide +kernel
theorem dX6_reachedFrom_8 : decode cX6_reachedFrom 8 = .ok (.ireturn, 1) := by decide +kernel
theorem dX6_reachedBy_0 : decode cX6_reachedBy 0 = .ok (.aload_n 0, 1) := by decide +kernel
theorem dX6_reachedBy_1 : decode cX6_reachedBy 1 = .ok (.getfield 18, 3) := by decide +kernel
theorem dX6_reachedBy_4 : decode cX6_reachedBy 4 = .ok (.iload_n 1, 1) := by decide +kernel
theorem dX6_reachedBy_5 : decode cX6_reachedBy 5 = .ok (.iaload, 1) := by decide +kernel
theorem dX6_reachedBy_6 : decode cX6_reachedBy 6 = .ok (.iconst 3, 1) := by decide +kernel
theorem dX6_reachedBy_7 : decode cX6_reachedBy 7 = .ok (.iand, 1) := by decide +kernel
theorem dX6_reachedBy_8 : decode cX6_reachedBy 8 = .ok (.ireturn, 1) := by decide +kernel
theorem dX7_init_0 : decode cX7_init 0 = .ok (.aload_n 0, 1) := by decide +kernel
theorem dX7_init_1 : decode cX7_init 1 = .ok (.invokespecial 1, 3) := by decide +kernel
theorem dX7_init_4 : decode cX7_init 4 = .ok (.aload_n 0, 1) := by decide +kernel
theorem dX7_init_5 : decode cX7_init 5 = .ok (.bipush 8, 2) := by decide +kernel
theorem dX7_init_7 : decode cX7_init 7 = .ok (.anewarray 9, 3) := by decide +kernel
theorem dX7_init_10 : decode cX7_init 10 = .ok (.putfield 11, 3) := by decide +kernel
theorem dX7_init_13 : decode cX7_init 13 = .ok (.iconst 0, 1) := by decide +kernel
theorem dX7_init_14 : decode cX7_init 14 = .ok (.istore_n 1, 1) := by decide +kernel
theorem dX7_init_15 : decode cX7_init 15 = .ok (.iload_n 1, 1) := by decide +kernel
theorem dX7_init_16 : decode cX7_init 16 = .ok (.bipush 8, 2) := by decide +kernel
theorem dX7_init_18 : decode cX7_init 18 = .ok (.if_icmp .ge 22, 3) := by decide +kernel
theorem dX7_init_21 : decode cX7_init 21 = .ok (.aload_n 0, 1) := by decide +kernel
theorem dX7_init_22 : decode cX7_init 22 = .ok (.getfield 11, 3) := by decide +kernel
theorem dX7_init_25 : decode cX7_init 25 = .ok (.iload_n 1, 1) := by decide +kernel
theorem dX7_init_26 : decode cX7_init 26 = .ok (.new 9, 3) := by decide +kernel
theorem dX7_init_29 : decode cX7_init 29 = .ok (.dup, 1) := by decide +kernel
theorem dX7_init_30 : decode cX7_init 30 = .ok (.invokespecial 15, 3) := by decide +kernel
theorem dX7_init_33 : decode cX7_init 33 = .ok (.aastore, 1) := by decide +kernel
theorem dX7_init_34 : decode cX7_init 34 = .ok (.iinc 1 1, 3) := by decide +kernel
theorem dX7_init_37 : decode cX7_init 37 = .ok (.goto (-22), 3) := by decide +kernel
theorem dX7_init_40 : decode cX7_init 40 = .ok (.aload_n 0, 1) := by decide +kernel
theorem dX7_init_41 : decode cX7_init 41 = .ok (.iconst 0, 1) := by decide +kernel
theorem dX7_init_42 : decode cX7_init 42 = .ok (.putfield 16, 3) := by decide +kernel
theorem dX7_init_45 : decode cX7_init 45 = .ok (.aload_n 0, 1) := by decide +kernel
theorem dX7_init_46 : decode cX7_init 46 = .ok (.iconst 0, 1) := by decide +kernel
theorem dX7_init_47 : decode cX7_init 47 = .ok (.putfield 20, 3) := by decide +kernel
theorem dX7_init_50 : decode cX7_init 50 = .ok (.return_, 1) := by decide +kernel
theorem dX7_size_0 : decode cX7_size 0 = .ok (.aload_n 0, 1) := by decide +kernel
theorem dX7_size_1 : decode cX7_size 1 = .ok (.getfield 20, 3) := by decide +kernel
theorem dX7_size_4 : decode cX7_size 4 = .ok (.ireturn, 1) := by decide +kernel
theorem dX7_keep_0 : decode cX7_keep 0 = .ok (.aload_n 0, 1) := by decide +kernel
theorem dX7_keep_1 : decode cX7_keep 1 = .ok (.getfield 11, 3) := by decide +kernel
theorem dX7_keep_4 : decode cX7_keep 4 = .ok (.aload_n 0, 1) := by decide +kernel
theorem dX7_keep_5 : decode cX7_keep 5 = .ok (.getfield 16, 3) := by decide +kernel
theorem dX7_keep_8 : decode cX7_keep 8 = .ok (.aload_n 0, 1) := by decide +kernel
theorem dX7_keep_9 : decode cX7_keep 9 = .ok (.getfield 20, 3) := by decide +kernel
theorem dX7_keep_12 : decode cX7_keep 12 = .ok (.iadd, 1) := by decide +kernel
theorem dX7_keep_13 : decode cX7_keep 13 = .ok (.bipush 8, 2) := by decide +kernel
theorem dX7_keep_15 : decode cX7_keep 15 = .ok (.irem, 1) := by decide +kernel
theorem dX7_keep_16 : decode cX7_keep 16 = .ok (.aaload, 1) := by decide +kernel
theorem dX7_keep_17 : decode cX7_keep 17 = .ok (.aload_n 1, 1) := by decide +kernel
theorem dX7_keep_18 : decode cX7_keep 18 = .ok (.invokevirtual 23, 3) := by decide +kernel
theorem dX7_keep_21 : decode cX7_keep 21 = .ok (.aload_n 0, 1) := by decide +kernel
theorem dX7_keep_22 : decode cX7_keep 22 = .ok (.getfield 20, 3) := by decide +kernel
theorem dX7_keep_25 : decode cX7_keep 25 = .ok (.bipush 8, 2) := by decide +kernel
theorem dX7_keep_27 : decode cX7_keep 27 = .ok (.if_icmp .ge 16, 3) := by decide +kernel
theorem dX7_keep_30 : decode cX7_keep 30 = .ok (.aload_n 0, 1) := by decide +kernel
theorem dX7_keep_31 : decode cX7_keep 31 = .ok (.dup, 1) := by decide +kernel
theorem dX7_keep_32 : decode cX7_keep 32 = .ok (.getfield 20, 3) := by decide +kernel
theorem dX7_keep_35 : decode cX7_keep 35 = .ok (.iconst 1, 1) := by decide +kernel
theorem dX7_keep_36 : decode cX7_keep 36 = .ok (.iadd, 1) := by decide +kernel
theorem dX7_keep_37 : decode cX7_keep 37 = .ok (.putfield 20, 3) := by decide +kernel
theorem dX7_keep_40 : decode cX7_keep 40 = .ok (.goto 16, 3) := by decide +kernel
theorem dX7_keep_43 : decode cX7_keep 43 = .ok (.aload_n 0, 1) := by decide +kernel
theorem dX7_keep_44 : decode cX7_keep 44 = .ok (.aload_n 0, 1) := by decide +kernel
theorem dX7_keep_45 : decode cX7_keep 45 = .ok (.getfield 16, 3) := by decide +kernel
theorem dX7_keep_48 : decode cX7_keep 48 = .ok (.iconst 1, 1) := by decide +kernel
theorem dX7_keep_49 : decode cX7_keep 49 = .ok (.iadd, 1) := by decide +kernel
theorem dX7_keep_50 : decode cX7_keep 50 = .ok (.bipush 8, 2) := by decide +kernel
theorem dX7_keep_52 : decode cX7_keep 52 = .ok (.irem, 1) := by decide +kernel
theorem dX7_keep_53 : decode cX7_keep 53 = .ok (.putfield 16, 3) := by decide +kernel
theorem dX7_keep_56 : decode cX7_keep 56 = .ok (.return_, 1) := by decide +kernel
theorem dX7_giveBack_0 : decode cX7_giveBack 0 = .ok (.aload_n 0, 1) := by decide +kernel
theorem dX7_giveBack_1 : decode cX7_giveBack 1 = .ok (.getfield 20, 3) := by decide +kernel
theorem dX7_giveBack_4 : decode cX7_giveBack 4 = .ok (.ifCond .le 34, 3) := by decide +kernel
theorem dX7_giveBack_7 : decode cX7_giveBack 7 = .ok (.aload_n 0, 1) := by decide +kernel
theorem dX7_giveBack_8 : decode cX7_giveBack 8 = .ok (.dup, 1) := by decide +kernel
theorem dX7_giveBack_9 : decode cX7_giveBack 9 = .ok (.getfield 20, 3) := by decide +kernel
theorem dX7_giveBack_12 : decode cX7_giveBack 12 = .ok (.iconst 1, 1) := by decide +kernel
theorem dX7_giveBack_13 : decode cX7_giveBack 13 = .ok (.isub, 1) := by decide +kernel
theorem dX7_giveBack_14 : decode cX7_giveBack 14 = .ok (.putfield 20, 3) := by decide +kernel
theorem dX7_giveBack_17 : decode cX7_giveBack 17 = .ok (.aload_n 1, 1) := by decide +kernel
theorem dX7_giveBack_18 : decode cX7_giveBack 18 = .ok (.aload_n 0, 1) := by decide +kernel
theorem dX7_giveBack_19 : decode cX7_giveBack 19 = .ok (.getfield 11, 3) := by decide +kernel
theorem dX7_giveBack_22 : decode cX7_giveBack 22 = .ok (.aload_n 0, 1) := by decide +kernel
theorem dX7_giveBack_23 : decode cX7_giveBack 23 = .ok (.getfield 16, 3) := by decide +kernel
theorem dX7_giveBack_26 : decode cX7_giveBack 26 = .ok (.aload_n 0, 1) := by decide +kernel
theorem dX7_giveBack_27 : decode cX7_giveBack 27 = .ok (.getfield 20, 3) := by decide +kernel
theorem dX7_giveBack_30 : decode cX7_giveBack 30 = .ok (.iadd, 1) := by decide +kernel
theorem dX7_giveBack_31 : decode cX7_giveBack 31 = .ok (.bipush 8, 2) := by decide +kernel
theorem dX7_giveBack_33 : decode cX7_giveBack 33 = .ok (.irem, 1) := by decide +kernel
theorem dX7_giveBack_34 : decode cX7_giveBack 34 = .ok (.aaload, 1) := by decide +kernel
theorem dX7_giveBack_35 : decode cX7_giveBack 35 = .ok (.invokevirtual 23, 3) := by decide +kernel
theorem dX7_giveBack_38 : decode cX7_giveBack 38 = .ok (.return_, 1) := by decide +kernel
theorem dX8_init_0 : decode cX8_init 0 = .ok (.aload_n 0, 1) := by decide +kernel
theorem dX8_init_1 : decode cX8_init 1 = .ok (.invokespecial 1, 3) := by decide +kernel
theorem dX8_init_4 : decode cX8_init 4 = .ok (.aload_n 0, 1) := by decide +kernel
theorem dX8_init_5 : decode cX8_init 5 = .ok (.bipush 60, 2) := by decide +kernel
theorem dX8_init_7 : decode cX8_init 7 = .ok (.newarray .int, 2) := by decide +kernel
theorem dX8_init_9 : decode cX8_init 9 = .ok (.putfield 9, 3) := by decide +kernel
theorem dX8_init_12 : decode cX8_init 12 = .ok (.aload_n 0, 1) := by decide +kernel
theorem dX8_init_13 : decode cX8_init 13 = .ok (.bipush 60, 2) := by decide +kernel
theorem dX8_init_15 : decode cX8_init 15 = .ok (.newarray .int, 2) := by decide +kernel
theorem dX8_init_17 : decode cX8_init 17 = .ok (.putfield 13, 3) := by decide +kernel
theorem dX8_init_20 : decode cX8_init 20 = .ok (.aload_n 0, 1) := by decide +kernel
theorem dX8_init_21 : decode cX8_init 21 = .ok (.sipush 240, 3) := by decide +kernel
theorem dX8_init_24 : decode cX8_init 24 = .ok (.newarray .int, 2) := by decide +kernel
theorem dX8_init_26 : decode cX8_init 26 = .ok (.putfield 16, 3) := by decide +kernel
theorem dX8_init_29 : decode cX8_init 29 = .ok (.aload_n 0, 1) := by decide +kernel
theorem dX8_init_30 : decode cX8_init 30 = .ok (.iconst 0, 1) := by decide +kernel
theorem dX8_init_31 : decode cX8_init 31 = .ok (.putfield 19, 3) := by decide +kernel
theorem dX8_init_34 : decode cX8_init 34 = .ok (.return_, 1) := by decide +kernel
theorem dX8_stepX_0 : decode cX8_stepX 0 = .ok (.getstatic 23, 3) := by decide +kernel
theorem dX8_stepX_3 : decode cX8_stepX 3 = .ok (.iload_n 0, 1) := by decide +kernel
theorem dX8_stepX_4 : decode cX8_stepX 4 = .ok (.iconst 3, 1) := by decide +kernel
theorem dX8_stepX_5 : decode cX8_stepX 5 = .ok (.iand, 1) := by decide +kernel
theorem dX8_stepX_6 : decode cX8_stepX 6 = .ok (.iaload, 1) := by decide +kernel
theorem dX8_stepX_7 : decode cX8_stepX 7 = .ok (.ireturn, 1) := by decide +kernel
theorem dX8_stepY_0 : decode cX8_stepY 0 = .ok (.getstatic 26, 3) := by decide +kernel
theorem dX8_stepY_3 : decode cX8_stepY 3 = .ok (.iload_n 0, 1) := by decide +kernel
theorem dX8_stepY_4 : decode cX8_stepY 4 = .ok (.iconst 3, 1) := by decide +kernel
theorem dX8_stepY_5 : decode cX8_stepY 5 = .ok (.iand, 1) := by decide +kernel
theorem dX8_stepY_6 : decode cX8_stepY 6 = .ok (.iaload, 1) := by decide +kernel
theorem dX8_stepY_7 : decode cX8_stepY 7 = .ok (.ireturn, 1) := by decide +kernel
theorem dX8_mirrored_0 : decode cX8_mirrored 0 = .ok (.iconst 2, 1) := by decide +kernel
theorem dX8_mirrored_1 : decode cX8_mirrored 1 = .ok (.iload_n 0, 1) := by decide +kernel
theorem dX8_mirrored_2 : decode cX8_mirrored 2 = .ok (.isub, 1) := by decide +kernel
theorem dX8_mirrored_3 : decode cX8_mirrored 3 = .ok (.iconst 3, 1) := by decide +kernel
theorem dX8_mirrored_4 : decode cX8_mirrored 4 = .ok (.iand, 1) := by decide +kernel
theorem dX8_mirrored_5 : decode cX8_mirrored 5 = .ok (.ireturn, 1) := by decide +kernel
theorem dX8_size_0 : decode cX8_size 0 = .ok (.aload_n 0, 1) := by decide +kernel
theorem dX8_size_1 : decode cX8_size 1 = .ok (.getfield 19, 3) := by decide +kernel
theorem dX8_size_4 : decode cX8_size 4 = .ok (.ireturn, 1) := by decide +kernel
theorem dX8_xOf_0 : decode cX8_xOf 0 = .ok (.aload_n 0, 1) := by decide +kernel
theorem dX8_xOf_1 : decode cX8_xOf 1 = .ok (.getfield 9, 3) := by decide +kernel
theorem dX8_xOf_4 : decode cX8_xOf 4 = .ok (.iload_n 1, 1) := by decide +kernel
theorem dX8_xOf_5 : decode cX8_xOf 5 = .ok (.iaload, 1) := by decide +kernel
theorem dX8_xOf_6 : decode cX8_xOf 6 = .ok (.ireturn, 1) := by decide +kernel
theorem dX8_yOf_0 : decode cX8_yOf 0 = .ok (.aload_n 0, 1) := by decide +kernel
theorem dX8_yOf_1 : decode cX8_yOf 1 = .ok (.getfield 13, 3) := by decide +kernel
theorem dX8_yOf_4 : decode cX8_yOf 4 = .ok (.iload_n 1, 1) := by decide +kernel
theorem dX8_yOf_5 : decode cX8_yOf 5 = .ok (.iaload, 1) := by decide +kernel
theorem dX8_yOf_6 : decode cX8_yOf 6 = .ok (.ireturn, 1) := by decide +kernel
theorem dX8_creaseAt_0 : decode cX8_creaseAt 0 = .ok (.aload_n 0, 1) := by decide +kernel
theorem dX8_creaseAt_1 : decode cX8_creaseAt 1 = .ok (.getfield 16, 3) := by decide +kernel
theorem dX8_creaseAt_4 : decode cX8_creaseAt 4 = .ok (.iconst 4, 1) := by decide +kernel
theorem dX8_creaseAt_5 : decode cX8_creaseAt 5 = .ok (.iload_n 1, 1) := by decide +kernel
theorem dX8_creaseAt_6 : decode cX8_creaseAt 6 = .ok (.imul, 1) := by decide +kernel
theorem dX8_creaseAt_7 : decode cX8_creaseAt 7 = .ok (.iload_n 2, 1) := by decide +kernel
theorem dX8_creaseAt_8 : decode cX8_creaseAt 8 = .ok (.iadd, 1) := by decide +kernel
theorem dX8_creaseAt_9 : decode cX8_creaseAt 9 = .ok (.iaload, 1) := by decide +kernel
theorem dX8_creaseAt_10 : decode cX8_creaseAt 10 = .ok (.ireturn, 1) := by decide +kernel
theorem dX8_creasesOf_0 : decode cX8_creasesOf 0 = .ok (.iconst 0, 1) := by decide +kernel
theorem dX8_creasesOf_1 : decode cX8_creasesOf 1 = .ok (.istore_n 2, 1) := by decide +kernel
theorem dX8_creasesOf_2 : decode cX8_creasesOf 2 = .ok (.iconst 0, 1) := by decide +kernel
theorem dX8_creasesOf_3 : decode cX8_creasesOf 3 = .ok (.istore_n 3, 1) := by decide +kernel
theorem dX8_creasesOf_4 : decode cX8_creasesOf 4 = .ok (.iload_n 3, 1) := by decide +kernel
theorem dX8_creasesOf_5 : decode cX8_creasesOf 5 = .ok (.iconst 4, 1) := by decide +kernel
theorem dX8_creasesOf_6 : decode cX8_creasesOf 6 = .ok (.if_icmp .ge 26, 3) := by decide +kernel
theorem dX8_creasesOf_9 : decode cX8_creasesOf 9 = .ok (.iload_n 2, 1) := by decide +kernel
theorem dX8_creasesOf_10 : decode cX8_creasesOf 10 = .ok (.aload_n 0, 1) := by decide +kernel
theorem dX8_creasesOf_11 : decode cX8_creasesOf 11 = .ok (.iload_n 1, 1) := by decide +kernel
theorem dX8_creasesOf_12 : decode cX8_creasesOf 12 = .ok (.iload_n 3, 1) := by decide +kernel
theorem dX8_creasesOf_13 : decode cX8_creasesOf 13 = .ok (.invokevirtual 29, 3) := by decide +kernel
theorem dX8_creasesOf_16 : decode cX8_creasesOf 16 = .ok (.ifCond .ne 7, 3) := by decide +kernel
theorem dX8_creasesOf_19 : decode cX8_creasesOf 19 = .ok (.iconst 0, 1) := by decide +kernel
theorem dX8_creasesOf_20 : decode cX8_creasesOf 20 = .ok (.goto 4, 3) := by decide +kernel
theorem dX8_creasesOf_23 : decode cX8_creasesOf 23 = .ok (.iconst 1, 1) := by decide +kernel
theorem dX8_creasesOf_24 : decode cX8_creasesOf 24 = .ok (.iadd, 1) := by decide +kernel
theorem dX8_creasesOf_25 : decode cX8_creasesOf 25 = .ok (.istore_n 2, 1) := by decide +kernel
theorem dX8_creasesOf_26 : decode cX8_creasesOf 26 = .ok (.iinc 3 1, 3) := by decide +kernel
theorem dX8_creasesOf_29 : decode cX8_creasesOf 29 = .ok (.goto (-25), 3) := by decide +kernel
theorem dX8_creasesOf_32 : decode cX8_creasesOf 32 = .ok (.iload_n 2, 1) := by decide +kernel
theorem dX8_creasesOf_33 : decode cX8_creasesOf 33 = .ok (.ireturn, 1) := by decide +kernel
theorem dX8_creaseCount_0 : decode cX8_creaseCount 0 = .ok (.iconst 0, 1) := by decide +kernel
theorem dX8_creaseCount_1 : decode cX8_creaseCount 1 = .ok (.istore_n 1, 1) := by decide +kernel
theorem dX8_creaseCount_2 : decode cX8_creaseCount 2 = .ok (.iconst 0, 1) := by decide +kernel
theorem dX8_creaseCount_3 : decode cX8_creaseCount 3 = .ok (.istore_n 2, 1) := by decide +kernel
theorem dX8_creaseCount_4 : decode cX8_creaseCount 4 = .ok (.iload_n 2, 1) := by decide +kernel
theorem dX8_creaseCount_5 : decode cX8_creaseCount 5 = .ok (.aload_n 0, 1) := by decide +kernel
theorem dX8_creaseCount_6 : decode cX8_creaseCount 6 = .ok (.getfield 19, 3) := by decide +kernel
theorem dX8_creaseCount_9 : decode cX8_creaseCount 9 = .ok (.if_icmp .ge 17, 3) := by decide +kernel
theorem dX8_creaseCount_12 : decode cX8_creaseCount 12 = .ok (.iload_n 1, 1) := by decide +kernel
theorem dX8_creaseCount_13 : decode cX8_creaseCount 13 = .ok (.aload_n 0, 1) := by decide +kernel
theorem dX8_creaseCount_14 : decode cX8_creaseCount 14 = .ok (.iload_n 2, 1) := by decide +kernel
theorem dX8_creaseCount_15 : decode cX8_creaseCount 15 = .ok (.invokevirtual 33, 3) := by decide +kernel
theorem dX8_creaseCount_18 : decode cX8_creaseCount 18 = .ok (.iadd, 1) := by decide +kernel
theorem dX8_creaseCount_19 : decode cX8_creaseCount 19 = .ok (.istore_n 1, 1) := by decide +kernel
theorem dX8_creaseCount_20 : decode cX8_creaseCount 20 = .ok (.iinc 2 1, 3) := by decide +kernel
theorem dX8_creaseCount_23 : decode cX8_creaseCount 23 = .ok (.goto (-19), 3) := by decide +kernel
theorem dX8_creaseCount_26 : decode cX8_creaseCount 26 = .ok (.iload_n 1, 1) := by decide +kernel
theorem dX8_creaseCount_27 : decode cX8_creaseCount 27 = .ok (.iconst 2, 1) := by decide +kernel
theorem dX8_creaseCount_28 : decode cX8_creaseCount 28 = .ok (.idiv, 1) := by decide +kernel
theorem dX8_creaseCount_29 : decode cX8_creaseCount 29 = .ok (.ireturn, 1) := by decide +kernel
theorem dX8_drop_0 : decode cX8_drop 0 = .ok (.aload_n 0, 1) := by decide +kernel
theorem dX8_drop_1 : decode cX8_drop 1 = .ok (.iconst 0, 1) := by decide +kernel
theorem dX8_drop_2 : decode cX8_drop 2 = .ok (.putfield 19, 3) := by decide +kernel
theorem dX8_drop_5 : decode cX8_drop 5 = .ok (.return_, 1) := by decide +kernel
theorem dX8_become_0 : decode cX8_become 0 = .ok (.aload_n 0, 1) := by decide +kernel
theorem dX8_become_1 : decode cX8_become 1 = .ok (.aload_n 1, 1) := by decide +kernel
theorem dX8_become_2 : decode cX8_become 2 = .ok (.getfield 19, 3) := by decide +kernel
theorem dX8_become_5 : decode cX8_become 5 = .ok (.putfield 19, 3) := by decide +kernel
theorem dX8_become_8 : decode cX8_become 8 = .ok (.aload_n 1, 1) := by decide +kernel
theorem dX8_become_9 : decode cX8_become 9 = .ok (.getfield 9, 3) := by decide +kernel
theorem dX8_become_12 : decode cX8_become 12 = .ok (.iconst 0, 1) := by decide +kernel
theorem dX8_become_13 : decode cX8_become 13 = .ok (.aload_n 0, 1) := by decide +kernel
theorem dX8_become_14 : decode cX8_become 14 = .ok (.getfield 9, 3) := by decide +kernel
theorem dX8_become_17 : decode cX8_become 17 = .ok (.iconst 0, 1) := by decide +kernel
theorem dX8_become_18 : decode cX8_become 18 = .ok (.aload_n 0, 1) := by decide +kernel
theorem dX8_become_19 : decode cX8_become 19 = .ok (.getfield 19, 3) := by decide +kernel
theorem dX8_become_22 : decode cX8_become 22 = .ok (.invokestatic 37, 3) := by decide +kernel
theorem dX8_become_25 : decode cX8_become 25 = .ok (.aload_n 1, 1) := by decide +kernel
theorem dX8_become_26 : decode cX8_become 26 = .ok (.getfield 13, 3) := by decide +kernel
theorem dX8_become_29 : decode cX8_become 29 = .ok (.iconst 0, 1) := by decide +kernel
theorem dX8_become_30 : decode cX8_become 30 = .ok (.aload_n 0, 1) := by decide +kernel
theorem dX8_become_31 : decode cX8_become 31 = .ok (.getfield 13, 3) := by decide +kernel
theorem dX8_become_34 : decode cX8_become 34 = .ok (.iconst 0, 1) := by decide +kernel
theorem dX8_become_35 : decode cX8_become 35 = .ok (.aload_n 0, 1) := by decide +kernel
theorem dX8_become_36 : decode cX8_become 36 = .ok (.getfield 19, 3) := by decide +kernel
theorem dX8_become_39 : decode cX8_become 39 = .ok (.invokestatic 37, 3) := by decide +kernel
theorem dX8_become_42 : decode cX8_become 42 = .ok (.aload_n 1, 1) := by decide +kernel
theorem dX8_become_43 : decode cX8_become 43 = .ok (.getfield 16, 3) := by decide +kernel
theorem dX8_become_46 : decode cX8_become 46 = .ok (.iconst 0, 1) := by decide +kernel
theorem dX8_become_47 : decode cX8_become 47 = .ok (.aload_n 0, 1) := by decide +kernel
theorem dX8_become_48 : decode cX8_become 48 = .ok (.getfield 16, 3) := by decide +kernel
theorem dX8_become_51 : decode cX8_become 51 = .ok (.iconst 0, 1) := by decide +kernel
theorem dX8_become_52 : decode cX8_become 52 = .ok (.iconst 4, 1) := by decide +kernel
theorem dX8_become_53 : decode cX8_become 53 = .ok (.aload_n 0, 1) := by decide +kernel
theorem dX8_become_54 : decode cX8_become 54 = .ok (.getfield 19, 3) := by decide +kernel
theorem dX8_become_57 : decode cX8_become 57 = .ok (.imul, 1) := by decide +kernel
theorem dX8_become_58 : decode cX8_become 58 = .ok (.invokestatic 37, 3) := by decide +kernel
theorem dX8_become_61 : decode cX8_become 61 = .ok (.return_, 1) := by decide +kernel
theorem dX8_find_0 : decode cX8_find 0 = .ok (.aload_n 0, 1) := by decide +kernel
theorem dX8_find_1 : decode cX8_find 1 = .ok (.iload_n 1, 1) := by decide +kernel
theorem dX8_find_2 : decode cX8_find 2 = .ok (.iload_n 2, 1) := by decide +kernel
theorem dX8_find_3 : decode cX8_find 3 = .ok (.invokevirtual 43, 3) := by decide +kernel
theorem dX8_find_6 : decode cX8_find 6 = .ok (.istore_n 3, 1) := by decide +kernel
theorem dX8_find_7 : decode cX8_find 7 = .ok (.iload_n 3, 1) := by decide +kernel
theorem dX8_find_8 : decode cX8_find 8 = .ok (.aload_n 0, 1) := by decide +kernel
theorem dX8_find_9 : decode cX8_find 9 = .ok (.getfield 19, 3) := by decide +kernel
theorem dX8_find_12 : decode cX8_find 12 = .ok (.if_icmp .ge 27, 3) := by decide +kernel
theorem dX8_find_15 : decode cX8_find 15 = .ok (.aload_n 0, 1) := by decide +kernel
theorem dX8_find_16 : decode cX8_find 16 = .ok (.getfield 9, 3) := by decide +kernel
theorem dX8_find_19 : decode cX8_find 19 = .ok (.iload_n 3, 1) := by decide +kernel
theorem dX8_find_20 : decode cX8_find 20 = .ok (.iaload, 1) := by decide +kernel
theorem dX8_find_21 : decode cX8_find 21 = .ok (.iload_n 1, 1) := by decide +kernel
theorem dX8_find_22 : decode cX8_find 22 = .ok (.if_icmp .ne 17, 3) := by decide +kernel
theorem dX8_find_25 : decode cX8_find 25 = .ok (.aload_n 0, 1) := by decide +kernel
theorem dX8_find_26 : decode cX8_find 26 = .ok (.getfield 13, 3) := by decide +kernel
theorem dX8_find_29 : decode cX8_find 29 = .ok (.iload_n 3, 1) := by decide +kernel
theorem dX8_find_30 : decode cX8_find 30 = .ok (.iaload, 1) := by decide +kernel
theorem dX8_find_31 : decode cX8_find 31 = .ok (.iload_n 2, 1) := by decide +kernel
theorem dX8_find_32 : decode cX8_find 32 = .ok (.if_icmp .ne 7, 3) := by decide +kernel
theorem dX8_find_35 : decode cX8_find 35 = .ok (.iload_n 3, 1) := by decide +kernel
theorem dX8_find_36 : decode cX8_find 36 = .ok (.goto 4, 3) := by decide +kernel
theorem dX8_find_39 : decode cX8_find 39 = .ok (.iconst (-1), 1) := by decide +kernel
theorem dX8_find_40 : decode cX8_find 40 = .ok (.ireturn, 1) := by decide +kernel
theorem dX8_beside_0 : decode cX8_beside 0 = .ok (.aload_n 0, 1) := by decide +kernel
theorem dX8_beside_1 : decode cX8_beside 1 = .ok (.aload_n 0, 1) := by decide +kernel
theorem dX8_beside_2 : decode cX8_beside 2 = .ok (.getfield 9, 3) := by decide +kernel
theorem dX8_beside_5 : decode cX8_beside 5 = .ok (.iload_n 1, 1) := by decide +kernel
theorem dX8_beside_6 : decode cX8_beside 6 = .ok (.iaload, 1) := by decide +kernel
theorem dX8_beside_7 : decode cX8_beside 7 = .ok (.iload_n 2, 1) := by decide +kernel
theorem dX8_beside_8 : decode cX8_beside 8 = .ok (.invokestatic 46, 3) := by decide +kernel
theorem dX8_beside_11 : decode cX8_beside 11 = .ok (.iadd, 1) := by decide +kernel
theorem dX8_beside_12 : decode cX8_beside 12 = .ok (.aload_n 0, 1) := by decide +kernel
theorem dX8_beside_13 : decode cX8_beside 13 = .ok (.getfield 13, 3) := by decide +kernel
theorem dX8_beside_16 : decode cX8_beside 16 = .ok (.iload_n 1, 1) := by decide +kernel
theorem dX8_beside_17 : decode cX8_beside 17 = .ok (.iaload, 1) := by decide +kernel
theorem dX8_beside_18 : decode cX8_beside 18 = .ok (.iload_n 2, 1) := by decide +kernel
theorem dX8_beside_19 : decode cX8_beside 19 = .ok (.invokestatic 49, 3) := by decide +kernel
theorem dX8_beside_22 : decode cX8_beside 22 = .ok (.iadd, 1) := by decide +kernel
theorem dX8_beside_23 : decode cX8_beside 23 = .ok (.invokevirtual 52, 3) := by decide +kernel
theorem dX8_beside_26 : decode cX8_beside 26 = .ok (.ireturn, 1) := by decide +kernel
theorem dX8_firstNotBefore_0 : decode cX8_firstNotBefore 0 = .ok (.iconst 0, 1) := by decide +kernel
theorem dX8_firstNotBefore_1 : decode cX8_firstNotBefore 1 = .ok (.istore_n 3, 1) := by decide +kernel
theorem dX8_firstNotBefore_2 : decode cX8_firstNotBefore 2 = .ok (.iload_n 3, 1) := by decide +kernel
theorem dX8_firstNotBefore_3 : decode cX8_firstNotBefore 3 = .ok (.aload_n 0, 1) := by decide +kernel
theorem dX8_firstNotBefore_4 : decode cX8_firstNotBefore 4 = .ok (.getfield 19, 3) := by decide +kernel
theorem dX8_firstNotBefore_7 : decode cX8_firstNotBefore 7 = .ok (.if_icmp .ge 41, 3) := by decide +kernel
theorem dX8_firstNotBefore_10 : decode cX8_firstNotBefore 10 = .ok (.aload_n 0, 1) := by decide +kernel
theorem dX8_firstNotBefore_11 : decode cX8_firstNotBefore 11 = .ok (.getfield 13, 3) := by decide +kernel
theorem dX8_firstNotBefore_14 : decode cX8_firstNotBefore 14 = .ok (.iload_n 3, 1) := by decide +kernel
theorem dX8_firstNotBefore_15 : decode cX8_firstNotBefore 15 = .ok (.iaload, 1) := by decide +kernel
theorem dX8_firstNotBefore_16 : decode cX8_firstNotBefore 16 = .ok (.iload_n 2, 1) := by decide +kernel
theorem dX8_firstNotBefore_17 : decode cX8_firstNotBefore 17 = .ok (.if_icmp .gt 23, 3) := by decide +kernel
theorem dX8_firstNotBefore_20 : decode cX8_firstNotBefore 20 = .ok (.aload_n 0, 1) := by decide +kernel
theorem dX8_firstNotBefore_21 : decode cX8_firstNotBefore 21 = .ok (.getfield 13, 3) := by decide +kernel
theorem dX8_firstNotBefore_24 : decode cX8_firstNotBefore 24 = .ok (.iload_n 3, 1) := by decide +kernel
theorem dX8_firstNotBefore_25 : decode cX8_firstNotBefore 25 = .ok (.iaload, 1) := by decide +kernel
theorem dX8_firstNotBefore_26 : decode cX8_firstNotBefore 26 = .ok (.iload_n 2, 1) := by decide +kernel
theorem dX8_firstNotBefore_27 : decode cX8_firstNotBefore 27 = .ok (.if_icmp .ne 15, 3) := by decide +kernel
theorem dX8_firstNotBefore_30 : decode cX8_firstNotBefore 30 = .ok (.aload_n 0, 1) := by decide +kernel
theorem dX8_firstNotBefore_31 : decode cX8_firstNotBefore 31 = .ok (.getfield 9, 3) := by decide +kernel
theorem dX8_firstNotBefore_34 : decode cX8_firstNotBefore 34 = .ok (.iload_n 3, 1) := by decide +kernel
theorem dX8_firstNotBefore_35 : decode cX8_firstNotBefore 35 = .ok (.iaload, 1) := by decide +kernel
theorem dX8_firstNotBefore_36 : decode cX8_firstNotBefore 36 = .ok (.iload_n 1, 1) := by decide +kernel
theorem dX8_firstNotBefore_37 : decode cX8_firstNotBefore 37 = .ok (.if_icmp .lt 5, 3) := by decide +kernel
theorem dX8_firstNotBefore_40 : decode cX8_firstNotBefore 40 = .ok (.iload_n 3, 1) := by decide +kernel
theorem dX8_firstNotBefore_41 : decode cX8_firstNotBefore 41 = .ok (.ireturn, 1) := by decide +kernel
theorem dX8_firstNotBefore_42 : decode cX8_firstNotBefore 42 = .ok (.iinc 3 1, 3) := by decide +kernel
theorem dX8_firstNotBefore_45 : decode cX8_firstNotBefore 45 = .ok (.goto (-43), 3) := by decide +kernel
theorem dX8_firstNotBefore_48 : decode cX8_firstNotBefore 48 = .ok (.aload_n 0, 1) := by decide +kernel
theorem dX8_firstNotBefore_49 : decode cX8_firstNotBefore 49 = .ok (.getfield 19, 3) := by decide +kernel
