theorem z_d_init_0 : decode b_d_init 0 = .ok (.aload_n 0, 1) := by decide +kernel
theorem z_d_init_1 : decode b_d_init 1 = .ok (.invokespecial 3, 3) := by decide +kernel
theorem z_d_init_4 : decode b_d_init 4 = .ok (.aload_n 0, 1) := by decide +kernel
theorem z_d_init_5 : decode b_d_init 5 = .ok (.bipush 8, 2) := by decide +kernel
theorem z_d_init_7 : decode b_d_init 7 = .ok (.newarray .int, 2) := by decide +kernel
theorem z_d_init_9 : decode b_d_init 9 = .ok (.putfield 9, 3) := by decide +kernel
theorem z_d_init_12 : decode b_d_init 12 = .ok (.aload_n 0, 1) := by decide +kernel
theorem z_d_init_13 : decode b_d_init 13 = .ok (.new 13, 3) := by decide +kernel
theorem z_d_init_16 : decode b_d_init 16 = .ok (.dup, 1) := by decide +kernel
theorem z_d_init_17 : decode b_d_init 17 = .ok (.invokespecial 15, 3) := by decide +kernel
theorem z_d_init_20 : decode b_d_init 20 = .ok (.putfield 16, 3) := by decide +kernel
theorem z_d_init_23 : decode b_d_init 23 = .ok (.aload_n 0, 1) := by decide +kernel
theorem z_d_init_24 : decode b_d_init 24 = .ok (.new 20, 3) := by decide +kernel
theorem z_d_init_27 : decode b_d_init 27 = .ok (.dup, 1) := by decide +kernel
theorem z_d_init_28 : decode b_d_init 28 = .ok (.invokespecial 22, 3) := by decide +kernel
theorem z_d_init_31 : decode b_d_init 31 = .ok (.putfield 23, 3) := by decide +kernel
theorem z_d_init_34 : decode b_d_init 34 = .ok (.aload_n 0, 1) := by decide +kernel
theorem z_d_init_35 : decode b_d_init 35 = .ok (.new 27, 3) := by decide +kernel
theorem z_d_init_38 : decode b_d_init 38 = .ok (.dup, 1) := by decide +kernel
theorem z_d_init_39 : decode b_d_init 39 = .ok (.invokespecial 29, 3) := by decide +kernel
theorem z_d_init_42 : decode b_d_init 42 = .ok (.putfield 30, 3) := by decide +kernel
theorem z_d_init_45 : decode b_d_init 45 = .ok (.aload_n 0, 1) := by decide +kernel
theorem z_d_init_46 : decode b_d_init 46 = .ok (.getfield 9, 3) := by decide +kernel
theorem z_d_init_49 : decode b_d_init 49 = .ok (.iconst (-1), 1) := by decide +kernel
theorem z_d_init_50 : decode b_d_init 50 = .ok (.invokestatic 34, 3) := by decide +kernel
theorem z_d_init_53 : decode b_d_init 53 = .ok (.return_, 1) := by decide +kernel
theorem z_w_init_0 : decode b_w_init 0 = .ok (.aload_n 0, 1) := by decide +kernel
theorem z_w_init_1 : decode b_w_init 1 = .ok (.invokespecial 3, 3) := by decide +kernel
theorem z_w_init_4 : decode b_w_init 4 = .ok (.aload_n 0, 1) := by decide +kernel
theorem z_w_init_5 : decode b_w_init 5 = .ok (.bipush 64, 2) := by decide +kernel
theorem z_w_init_7 : decode b_w_init 7 = .ok (.newarray .int, 2) := by decide +kernel
theorem z_w_init_9 : decode b_w_init 9 = .ok (.putfield 9, 3) := by decide +kernel
theorem z_w_init_12 : decode b_w_init 12 = .ok (.aload_n 0, 1) := by decide +kernel
theorem z_w_init_13 : decode b_w_init 13 = .ok (.bipush 64, 2) := by decide +kernel
theorem z_w_init_15 : decode b_w_init 15 = .ok (.newarray .int, 2) := by decide +kernel
theorem z_w_init_17 : decode b_w_init 17 = .ok (.putfield 15, 3) := by decide +kernel
theorem z_w_init_20 : decode b_w_init 20 = .ok (.aload_n 0, 1) := by decide +kernel
theorem z_w_init_21 : decode b_w_init 21 = .ok (.bipush 64, 2) := by decide +kernel
theorem z_w_init_23 : decode b_w_init 23 = .ok (.newarray .int, 2) := by decide +kernel
theorem z_w_init_25 : decode b_w_init 25 = .ok (.putfield 18, 3) := by decide +kernel
theorem z_w_init_28 : decode b_w_init 28 = .ok (.return_, 1) := by decide +kernel
theorem z_s_init_0 : decode b_s_init 0 = .ok (.aload_n 0, 1) := by decide +kernel
theorem z_s_init_1 : decode b_s_init 1 = .ok (.invokespecial 3, 3) := by decide +kernel
theorem z_s_init_4 : decode b_s_init 4 = .ok (.aload_n 0, 1) := by decide +kernel
theorem z_s_init_5 : decode b_s_init 5 = .ok (.bipush 8, 2) := by decide +kernel
theorem z_s_init_7 : decode b_s_init 7 = .ok (.newarray .int, 2) := by decide +kernel
theorem z_s_init_9 : decode b_s_init 9 = .ok (.putfield 9, 3) := by decide +kernel
theorem z_s_init_12 : decode b_s_init 12 = .ok (.aload_n 0, 1) := by decide +kernel
theorem z_s_init_13 : decode b_s_init 13 = .ok (.sipush 240, 3) := by decide +kernel
theorem z_s_init_16 : decode b_s_init 16 = .ok (.newarray .int, 2) := by decide +kernel
theorem z_s_init_18 : decode b_s_init 18 = .ok (.putfield 15, 3) := by decide +kernel
theorem z_s_init_21 : decode b_s_init 21 = .ok (.aload_n 0, 1) := by decide +kernel
theorem z_s_init_22 : decode b_s_init 22 = .ok (.sipush 240, 3) := by decide +kernel
theorem z_s_init_25 : decode b_s_init 25 = .ok (.newarray .boolean, 2) := by decide +kernel
theorem z_s_init_27 : decode b_s_init 27 = .ok (.putfield 18, 3) := by decide +kernel
theorem z_s_init_30 : decode b_s_init 30 = .ok (.aload_n 0, 1) := by decide +kernel
theorem z_s_init_31 : decode b_s_init 31 = .ok (.sipush 240, 3) := by decide +kernel
theorem z_s_init_34 : decode b_s_init 34 = .ok (.newarray .int, 2) := by decide +kernel
theorem z_s_init_36 : decode b_s_init 36 = .ok (.putfield 22, 3) := by decide +kernel
theorem z_s_init_39 : decode b_s_init 39 = .ok (.aload_n 0, 1) := by decide +kernel
theorem z_s_init_40 : decode b_s_init 40 = .ok (.sipush 240, 3) := by decide +kernel
theorem z_s_init_43 : decode b_s_init 43 = .ok (.newarray .int, 2) := by decide +kernel
theorem z_s_init_45 : decode b_s_init 45 = .ok (.putfield 25, 3) := by decide +kernel
theorem z_s_init_48 : decode b_s_init 48 = .ok (.aload_n 0, 1) := by decide +kernel
theorem z_s_init_49 : decode b_s_init 49 = .ok (.sipush 3840, 3) := by decide +kernel
theorem z_s_init_52 : decode b_s_init 52 = .ok (.newarray .byte, 2) := by decide +kernel
theorem z_s_init_54 : decode b_s_init 54 = .ok (.putfield 28, 3) := by decide +kernel
theorem z_s_init_57 : decode b_s_init 57 = .ok (.return_, 1) := by decide +kernel
theorem z_r_init_0 : decode b_r_init 0 = .ok (.aload_n 0, 1) := by decide +kernel
theorem z_r_init_1 : decode b_r_init 1 = .ok (.invokespecial 3, 3) := by decide +kernel
theorem z_r_init_4 : decode b_r_init 4 = .ok (.aload_n 0, 1) := by decide +kernel
theorem z_r_init_5 : decode b_r_init 5 = .ok (.sipush 400, 3) := by decide +kernel
theorem z_r_init_8 : decode b_r_init 8 = .ok (.newarray .int, 2) := by decide +kernel
theorem z_r_init_10 : decode b_r_init 10 = .ok (.putfield 9, 3) := by decide +kernel
theorem z_r_init_13 : decode b_r_init 13 = .ok (.return_, 1) := by decide +kernel
theorem z_J_fill_0 : decode b_J_fill 0 = .ok (.iconst 0, 1) := by decide +kernel
theorem z_J_fill_1 : decode b_J_fill 1 = .ok (.istore_n 2, 1) := by decide +kernel
theorem z_J_fill_2 : decode b_J_fill 2 = .ok (.aload_n 0, 1) := by decide +kernel
theorem z_J_fill_3 : decode b_J_fill 3 = .ok (.arraylength, 1) := by decide +kernel
theorem z_J_fill_4 : decode b_J_fill 4 = .ok (.istore_n 3, 1) := by decide +kernel
theorem z_J_fill_5 : decode b_J_fill 5 = .ok (.iload_n 2, 1) := by decide +kernel
theorem z_J_fill_6 : decode b_J_fill 6 = .ok (.iload_n 3, 1) := by decide +kernel
theorem z_J_fill_7 : decode b_J_fill 7 = .ok (.if_icmp .ge 13, 3) := by decide +kernel
theorem z_J_fill_10 : decode b_J_fill 10 = .ok (.aload_n 0, 1) := by decide +kernel
theorem z_J_fill_11 : decode b_J_fill 11 = .ok (.iload_n 2, 1) := by decide +kernel
theorem z_J_fill_12 : decode b_J_fill 12 = .ok (.iload_n 1, 1) := by decide +kernel
theorem z_J_fill_13 : decode b_J_fill 13 = .ok (.iastore, 1) := by decide +kernel
theorem z_J_fill_14 : decode b_J_fill 14 = .ok (.iinc 2 1, 3) := by decide +kernel
theorem z_J_fill_17 : decode b_J_fill 17 = .ok (.goto (-12), 3) := by decide +kernel
theorem z_J_fill_20 : decode b_J_fill 20 = .ok (.return_, 1) := by decide +kernel
theorem z_d_book_0 : decode b_d_book 0 = .ok (.iconst 0, 1) := by decide +kernel
theorem z_d_book_1 : decode b_d_book 1 = .ok (.aload_n 0, 1) := by decide +kernel
theorem z_d_book_2 : decode b_d_book 2 = .ok (.getfield 183, 3) := by decide +kernel
theorem z_d_book_5 : decode b_d_book 5 = .ok (.invokestatic 197, 3) := by decide +kernel
theorem z_d_book_8 : decode b_d_book 8 = .ok (.aload_n 0, 1) := by decide +kernel
theorem z_d_book_9 : decode b_d_book 9 = .ok (.getfield 106, 3) := by decide +kernel
theorem z_d_book_12 : decode b_d_book 12 = .ok (.invokestatic 197, 3) := by decide +kernel
theorem z_d_book_15 : decode b_d_book 15 = .ok (.istore_n 1, 1) := by decide +kernel
theorem z_d_book_16 : decode b_d_book 16 = .ok (.iconst 0, 1) := by decide +kernel
theorem z_d_book_17 : decode b_d_book 17 = .ok (.istore_n 2, 1) := by decide +kernel
theorem z_d_book_18 : decode b_d_book 18 = .ok (.iload_n 2, 1) := by decide +kernel
theorem z_d_book_19 : decode b_d_book 19 = .ok (.bipush 8, 2) := by decide +kernel
theorem z_d_book_21 : decode b_d_book 21 = .ok (.if_icmp .ge 28, 3) := by decide +kernel
theorem z_d_book_24 : decode b_d_book 24 = .ok (.aload_n 0, 1) := by decide +kernel
theorem z_d_book_25 : decode b_d_book 25 = .ok (.getfield 23, 3) := by decide +kernel
theorem z_d_book_28 : decode b_d_book 28 = .ok (.iload_n 1, 1) := by decide +kernel
theorem z_d_book_29 : decode b_d_book 29 = .ok (.aload_n 0, 1) := by decide +kernel
theorem z_d_book_30 : decode b_d_book 30 = .ok (.getfield 9, 3) := by decide +kernel
theorem z_d_book_33 : decode b_d_book 33 = .ok (.iload_n 2, 1) := by decide +kernel
theorem z_d_book_34 : decode b_d_book 34 = .ok (.iaload, 1) := by decide +kernel
theorem z_d_book_35 : decode b_d_book 35 = .ok (.invokestatic 197, 3) := by decide +kernel
theorem z_d_book_38 : decode b_d_book 38 = .ok (.iload_n 2, 1) := by decide +kernel
theorem z_d_book_39 : decode b_d_book 39 = .ok (.invokevirtual 200, 3) := by decide +kernel
theorem z_d_book_42 : decode b_d_book 42 = .ok (.istore_n 1, 1) := by decide +kernel
theorem z_d_book_43 : decode b_d_book 43 = .ok (.iinc 2 1, 3) := by decide +kernel
theorem z_d_book_46 : decode b_d_book 46 = .ok (.goto (-28), 3) := by decide +kernel
theorem z_d_book_49 : decode b_d_book 49 = .ok (.aload_n 0, 1) := by decide +kernel
theorem z_d_book_50 : decode b_d_book 50 = .ok (.getfield 30, 3) := by decide +kernel
theorem z_d_book_53 : decode b_d_book 53 = .ok (.iload_n 1, 1) := by decide +kernel
theorem z_d_book_54 : decode b_d_book 54 = .ok (.invokevirtual 203, 3) := by decide +kernel
theorem z_d_book_57 : decode b_d_book 57 = .ok (.ireturn, 1) := by decide +kernel
theorem z_d_stir_0 : decode b_d_stir 0 = .ok (.iload_n 0, 1) := by decide +kernel
theorem z_d_stir_1 : decode b_d_stir 1 = .ok (.iload_n 1, 1) := by decide +kernel
theorem z_d_stir_2 : decode b_d_stir 2 = .ok (.ixor, 1) := by decide +kernel
theorem z_d_stir_3 : decode b_d_stir 3 = .ok (.istore_n 2, 1) := by decide +kernel
theorem z_d_stir_4 : decode b_d_stir 4 = .ok (.iload_n 2, 1) := by decide +kernel
theorem z_d_stir_5 : decode b_d_stir 5 = .ok (.iconst 5, 1) := by decide +kernel
theorem z_d_stir_6 : decode b_d_stir 6 = .ok (.ishl, 1) := by decide +kernel
theorem z_d_stir_7 : decode b_d_stir 7 = .ok (.iload_n 2, 1) := by decide +kernel
theorem z_d_stir_8 : decode b_d_stir 8 = .ok (.bipush 27, 2) := by decide +kernel
theorem z_d_stir_10 : decode b_d_stir 10 = .ok (.iushr, 1) := by decide +kernel
theorem z_d_stir_11 : decode b_d_stir 11 = .ok (.ior, 1) := by decide +kernel
theorem z_d_stir_12 : decode b_d_stir 12 = .ok (.ldc 207, 2) := by decide +kernel
theorem z_d_stir_14 : decode b_d_stir 14 = .ok (.imul, 1) := by decide +kernel
theorem z_d_stir_15 : decode b_d_stir 15 = .ok (.ireturn, 1) := by decide +kernel
theorem z_s_stirKind_0 : decode b_s_stirKind 0 = .ok (.iload_n 1, 1) := by decide +kernel
theorem z_s_stirKind_1 : decode b_s_stirKind 1 = .ok (.istore_n 3, 1) := by decide +kernel
theorem z_s_stirKind_2 : decode b_s_stirKind 2 = .ok (.iconst 0, 1) := by decide +kernel
theorem z_s_stirKind_3 : decode b_s_stirKind 3 = .ok (.istore 4, 2) := by decide +kernel
theorem z_s_stirKind_5 : decode b_s_stirKind 5 = .ok (.iload 4, 2) := by decide +kernel
theorem z_s_stirKind_7 : decode b_s_stirKind 7 = .ok (.aload_n 0, 1) := by decide +kernel
theorem z_s_stirKind_8 : decode b_s_stirKind 8 = .ok (.getfield 9, 3) := by decide +kernel
theorem z_s_stirKind_11 : decode b_s_stirKind 11 = .ok (.iload_n 2, 1) := by decide +kernel
theorem z_s_stirKind_12 : decode b_s_stirKind 12 = .ok (.iaload, 1) := by decide +kernel
theorem z_s_stirKind_13 : decode b_s_stirKind 13 = .ok (.if_icmp .ge 21, 3) := by decide +kernel
theorem z_s_stirKind_16 : decode b_s_stirKind 16 = .ok (.aload_n 0, 1) := by decide +kernel
theorem z_s_stirKind_17 : decode b_s_stirKind 17 = .ok (.iload_n 3, 1) := by decide +kernel
theorem z_s_stirKind_18 : decode b_s_stirKind 18 = .ok (.iload_n 2, 1) := by decide +kernel
theorem z_s_stirKind_19 : decode b_s_stirKind 19 = .ok (.iload 4, 2) := by decide +kernel
theorem z_s_stirKind_21 : decode b_s_stirKind 21 = .ok (.invokestatic 32, 3) := by decide +kernel
theorem z_s_stirKind_24 : decode b_s_stirKind 24 = .ok (.invokevirtual 47, 3) := by decide +kernel
theorem z_s_stirKind_27 : decode b_s_stirKind 27 = .ok (.istore_n 3, 1) := by decide +kernel
theorem z_s_stirKind_28 : decode b_s_stirKind 28 = .ok (.iinc 4 1, 3) := by decide +kernel
theorem z_s_stirKind_31 : decode b_s_stirKind 31 = .ok (.goto (-26), 3) := by decide +kernel
theorem z_s_stirKind_34 : decode b_s_stirKind 34 = .ok (.iload_n 3, 1) := by decide +kernel
theorem z_s_stirKind_35 : decode b_s_stirKind 35 = .ok (.ireturn, 1) := by decide +kernel
theorem z_d_slotOf_0 : decode b_d_slotOf 0 = .ok (.iload_n 0, 1) := by decide +kernel
theorem z_d_slotOf_1 : decode b_d_slotOf 1 = .ok (.bipush 30, 2) := by decide +kernel
theorem z_d_slotOf_3 : decode b_d_slotOf 3 = .ok (.imul, 1) := by decide +kernel
theorem z_d_slotOf_4 : decode b_d_slotOf 4 = .ok (.iload_n 1, 1) := by decide +kernel
theorem z_d_slotOf_5 : decode b_d_slotOf 5 = .ok (.iadd, 1) := by decide +kernel
theorem z_d_slotOf_6 : decode b_d_slotOf 6 = .ok (.ireturn, 1) := by decide +kernel
theorem z_s_stirOne_0 : decode b_s_stirOne 0 = .ok (.iload_n 1, 1) := by decide +kernel
theorem z_s_stirOne_1 : decode b_s_stirOne 1 = .ok (.aload_n 0, 1) := by decide +kernel
theorem z_s_stirOne_2 : decode b_s_stirOne 2 = .ok (.getfield 15, 3) := by decide +kernel
theorem z_s_stirOne_5 : decode b_s_stirOne 5 = .ok (.iload_n 2, 1) := by decide +kernel
theorem z_s_stirOne_6 : decode b_s_stirOne 6 = .ok (.iaload, 1) := by decide +kernel
theorem z_s_stirOne_7 : decode b_s_stirOne 7 = .ok (.invokestatic 50, 3) := by decide +kernel
theorem z_s_stirOne_10 : decode b_s_stirOne 10 = .ok (.aload_n 0, 1) := by decide +kernel
theorem z_s_stirOne_11 : decode b_s_stirOne 11 = .ok (.getfield 18, 3) := by decide +kernel
theorem z_s_stirOne_14 : decode b_s_stirOne 14 = .ok (.iload_n 2, 1) := by decide +kernel
theorem z_s_stirOne_15 : decode b_s_stirOne 15 = .ok (.baload, 1) := by decide +kernel
theorem z_s_stirOne_16 : decode b_s_stirOne 16 = .ok (.ifCond .eq 7, 3) := by decide +kernel
theorem z_s_stirOne_19 : decode b_s_stirOne 19 = .ok (.iconst 1, 1) := by decide +kernel
theorem z_s_stirOne_20 : decode b_s_stirOne 20 = .ok (.goto 4, 3) := by decide +kernel
theorem z_s_stirOne_23 : decode b_s_stirOne 23 = .ok (.iconst 0, 1) := by decide +kernel
theorem z_s_stirOne_24 : decode b_s_stirOne 24 = .ok (.invokestatic 50, 3) := by decide +kernel
theorem z_s_stirOne_27 : decode b_s_stirOne 27 = .ok (.aload_n 0, 1) := by decide +kernel
theorem z_s_stirOne_28 : decode b_s_stirOne 28 = .ok (.getfield 22, 3) := by decide +kernel
theorem z_s_stirOne_31 : decode b_s_stirOne 31 = .ok (.iload_n 2, 1) := by decide +kernel
theorem z_s_stirOne_32 : decode b_s_stirOne 32 = .ok (.iaload, 1) := by decide +kernel
theorem z_s_stirOne_33 : decode b_s_stirOne 33 = .ok (.invokestatic 50, 3) := by decide +kernel
theorem z_s_stirOne_36 : decode b_s_stirOne 36 = .ok (.istore_n 3, 1) := by decide +kernel
theorem z_s_stirOne_37 : decode b_s_stirOne 37 = .ok (.iconst 0, 1) := by decide +kernel
theorem z_s_stirOne_38 : decode b_s_stirOne 38 = .ok (.istore 4, 2) := by decide +kernel
theorem z_s_stirOne_40 : decode b_s_stirOne 40 = .ok (.iload 4, 2) := by decide +kernel
theorem z_s_stirOne_42 : decode b_s_stirOne 42 = .ok (.aload_n 0, 1) := by decide +kernel
theorem z_s_stirOne_43 : decode b_s_stirOne 43 = .ok (.getfield 25, 3) := by decide +kernel
theorem z_s_stirOne_46 : decode b_s_stirOne 46 = .ok (.iload_n 2, 1) := by decide +kernel
theorem z_s_stirOne_47 : decode b_s_stirOne 47 = .ok (.iaload, 1) := by decide +kernel
theorem z_s_stirOne_48 : decode b_s_stirOne 48 = .ok (.if_icmp .ge 21, 3) := by decide +kernel
theorem z_s_stirOne_51 : decode b_s_stirOne 51 = .ok (.iload_n 3, 1) := by decide +kernel
theorem z_s_stirOne_52 : decode b_s_stirOne 52 = .ok (.aload_n 0, 1) := by decide +kernel
theorem z_s_stirOne_53 : decode b_s_stirOne 53 = .ok (.iload_n 2, 1) := by decide +kernel
theorem z_s_stirOne_54 : decode b_s_stirOne 54 = .ok (.iload 4, 2) := by decide +kernel
theorem z_s_stirOne_56 : decode b_s_stirOne 56 = .ok (.invokevirtual 40, 3) := by decide +kernel
theorem z_s_stirOne_59 : decode b_s_stirOne 59 = .ok (.invokestatic 50, 3) := by decide +kernel
theorem z_s_stirOne_62 : decode b_s_stirOne 62 = .ok (.istore_n 3, 1) := by decide +kernel
theorem z_s_stirOne_63 : decode b_s_stirOne 63 = .ok (.iinc 4 1, 3) := by decide +kernel
theorem z_s_stirOne_66 : decode b_s_stirOne 66 = .ok (.goto (-26), 3) := by decide +kernel
theorem z_s_stirOne_69 : decode b_s_stirOne 69 = .ok (.iload_n 3, 1) := by decide +kernel
theorem z_s_stirOne_70 : decode b_s_stirOne 70 = .ok (.ireturn, 1) := by decide +kernel
theorem z_s_byteAt_0 : decode b_s_byteAt 0 = .ok (.aload_n 0, 1) := by decide +kernel
theorem z_s_byteAt_1 : decode b_s_byteAt 1 = .ok (.getfield 28, 3) := by decide +kernel
theorem z_s_byteAt_4 : decode b_s_byteAt 4 = .ok (.iload_n 1, 1) := by decide +kernel
theorem z_s_byteAt_5 : decode b_s_byteAt 5 = .ok (.bipush 16, 2) := by decide +kernel
theorem z_s_byteAt_7 : decode b_s_byteAt 7 = .ok (.imul, 1) := by decide +kernel
theorem z_s_byteAt_8 : decode b_s_byteAt 8 = .ok (.iload_n 2, 1) := by decide +kernel
theorem z_s_byteAt_9 : decode b_s_byteAt 9 = .ok (.iadd, 1) := by decide +kernel
theorem z_s_byteAt_10 : decode b_s_byteAt 10 = .ok (.baload, 1) := by decide +kernel
theorem z_s_byteAt_11 : decode b_s_byteAt 11 = .ok (.sipush 255, 3) := by decide +kernel
theorem z_s_byteAt_14 : decode b_s_byteAt 14 = .ok (.iand, 1) := by decide +kernel
theorem z_s_byteAt_15 : decode b_s_byteAt 15 = .ok (.ireturn, 1) := by decide +kernel
theorem z_r_stirAll_0 : decode b_r_stirAll 0 = .ok (.iload_n 1, 1) := by decide +kernel
theorem z_r_stirAll_1 : decode b_r_stirAll 1 = .ok (.istore_n 2, 1) := by decide +kernel
theorem z_r_stirAll_2 : decode b_r_stirAll 2 = .ok (.iconst 0, 1) := by decide +kernel
theorem z_r_stirAll_3 : decode b_r_stirAll 3 = .ok (.istore_n 3, 1) := by decide +kernel
theorem z_r_stirAll_4 : decode b_r_stirAll 4 = .ok (.iload_n 3, 1) := by decide +kernel
theorem z_r_stirAll_5 : decode b_r_stirAll 5 = .ok (.aload_n 0, 1) := by decide +kernel
theorem z_r_stirAll_6 : decode b_r_stirAll 6 = .ok (.getfield 15, 3) := by decide +kernel
theorem z_r_stirAll_9 : decode b_r_stirAll 9 = .ok (.iconst 5, 1) := by decide +kernel
theorem z_r_stirAll_10 : decode b_r_stirAll 10 = .ok (.imul, 1) := by decide +kernel
theorem z_r_stirAll_11 : decode b_r_stirAll 11 = .ok (.if_icmp .ge 20, 3) := by decide +kernel
theorem z_r_stirAll_14 : decode b_r_stirAll 14 = .ok (.iload_n 2, 1) := by decide +kernel
theorem z_r_stirAll_15 : decode b_r_stirAll 15 = .ok (.aload_n 0, 1) := by decide +kernel
theorem z_r_stirAll_16 : decode b_r_stirAll 16 = .ok (.getfield 9, 3) := by decide +kernel
theorem z_r_stirAll_19 : decode b_r_stirAll 19 = .ok (.iload_n 3, 1) := by decide +kernel
theorem z_r_stirAll_20 : decode b_r_stirAll 20 = .ok (.iaload, 1) := by decide +kernel
theorem z_r_stirAll_21 : decode b_r_stirAll 21 = .ok (.invokestatic 19, 3) := by decide +kernel
theorem z_r_stirAll_24 : decode b_r_stirAll 24 = .ok (.istore_n 2, 1) := by decide +kernel
theorem z_r_stirAll_25 : decode b_r_stirAll 25 = .ok (.iinc 3 1, 3) := by decide +kernel
theorem z_r_stirAll_28 : decode b_r_stirAll 28 = .ok (.goto (-24), 3) := by decide +kernel
theorem z_r_stirAll_31 : decode b_r_stirAll 31 = .ok (.iload_n 2, 1) := by decide +kernel
theorem z_r_stirAll_32 : decode b_r_stirAll 32 = .ok (.ireturn, 1) := by decide +kernel
theorem z_d_under_0 : decode b_d_under 0 = .ok (.iload_n 1, 1) := by decide +kernel
theorem z_d_under_1 : decode b_d_under 1 = .ok (.invokestatic 40, 3) := by decide +kernel
theorem z_d_under_4 : decode b_d_under 4 = .ok (.ifCond .eq 15, 3) := by decide +kernel
theorem z_d_under_7 : decode b_d_under 7 = .ok (.iload_n 2, 1) := by decide +kernel
theorem z_d_under_8 : decode b_d_under 8 = .ok (.iconst (-1), 1) := by decide +kernel
theorem z_d_under_9 : decode b_d_under 9 = .ok (.if_icmp .eq 20, 3) := by decide +kernel
theorem z_d_under_12 : decode b_d_under 12 = .ok (.iload_n 2, 1) := by decide +kernel
theorem z_d_under_13 : decode b_d_under 13 = .ok (.invokestatic 40, 3) := by decide +kernel
theorem z_d_under_16 : decode b_d_under 16 = .ok (.ifCond .ne 13, 3) := by decide +kernel
theorem z_d_under_19 : decode b_d_under 19 = .ok (.new 44, 3) := by decide +kernel
theorem z_d_under_22 : decode b_d_under 22 = .ok (.dup, 1) := by decide +kernel
theorem z_d_under_23 : decode b_d_under 23 = .ok (.ldc 46, 2) := by decide +kernel
theorem z_d_under_25 : decode b_d_under 25 = .ok (.invokespecial 48, 3) := by decide +kernel
theorem z_d_under_28 : decode b_d_under 28 = .ok (.athrow, 1) := by decide +kernel
theorem z_d_under_29 : decode b_d_under 29 = .ok (.aload_n 0, 1) := by decide +kernel
theorem z_d_under_30 : decode b_d_under 30 = .ok (.getfield 23, 3) := by decide +kernel
theorem z_d_under_33 : decode b_d_under 33 = .ok (.getfield 51, 3) := by decide +kernel
theorem z_d_under_36 : decode b_d_under 36 = .ok (.iload_n 1, 1) := by decide +kernel
theorem z_d_under_37 : decode b_d_under 37 = .ok (.iaload, 1) := by decide +kernel
theorem z_d_under_38 : decode b_d_under 38 = .ok (.ifCond .gt 12, 3) := by decide +kernel
theorem z_d_under_41 : decode b_d_under 41 = .ok (.aload_n 0, 1) := by decide +kernel
theorem z_d_under_42 : decode b_d_under 42 = .ok (.iload_n 2, 1) := by decide +kernel
theorem z_d_under_43 : decode b_d_under 43 = .ok (.iload_n 1, 1) := by decide +kernel
theorem z_d_under_44 : decode b_d_under 44 = .ok (.invokevirtual 54, 3) := by decide +kernel
theorem z_d_under_47 : decode b_d_under 47 = .ok (.ifCond .eq 13, 3) := by decide +kernel
theorem z_d_under_50 : decode b_d_under 50 = .ok (.new 58, 3) := by decide +kernel
theorem z_d_under_53 : decode b_d_under 53 = .ok (.dup, 1) := by decide +kernel
theorem z_d_under_54 : decode b_d_under 54 = .ok (.ldc 60, 2) := by decide +kernel
theorem z_d_under_56 : decode b_d_under 56 = .ok (.invokespecial 62, 3) := by decide +kernel
theorem z_d_under_59 : decode b_d_under 59 = .ok (.athrow, 1) := by decide +kernel
theorem z_d_under_60 : decode b_d_under 60 = .ok (.aload_n 0, 1) := by decide +kernel
theorem z_d_under_61 : decode b_d_under 61 = .ok (.getfield 9, 3) := by decide +kernel
theorem z_d_under_64 : decode b_d_under 64 = .ok (.iload_n 1, 1) := by decide +kernel
theorem z_d_under_65 : decode b_d_under 65 = .ok (.iload_n 2, 1) := by decide +kernel
theorem z_d_under_66 : decode b_d_under 66 = .ok (.iastore, 1) := by decide +kernel
theorem z_d_under_67 : decode b_d_under 67 = .ok (.return_, 1) := by decide +kernel
theorem z_d_isKind_0 : decode b_d_isKind 0 = .ok (.iload_n 0, 1) := by decide +kernel
theorem z_d_isKind_1 : decode b_d_isKind 1 = .ok (.ifCond .lt 13, 3) := by decide +kernel
theorem z_d_isKind_4 : decode b_d_isKind 4 = .ok (.iload_n 0, 1) := by decide +kernel
theorem z_d_isKind_5 : decode b_d_isKind 5 = .ok (.bipush 8, 2) := by decide +kernel
theorem z_d_isKind_7 : decode b_d_isKind 7 = .ok (.if_icmp .ge 7, 3) := by decide +kernel
theorem z_d_isKind_10 : decode b_d_isKind 10 = .ok (.iconst 1, 1) := by decide +kernel
theorem z_d_isKind_11 : decode b_d_isKind 11 = .ok (.goto 4, 3) := by decide +kernel
theorem z_d_isKind_14 : decode b_d_isKind 14 = .ok (.iconst 0, 1) := by decide +kernel
theorem z_d_isKind_15 : decode b_d_isKind 15 = .ok (.ireturn, 1) := by decide +kernel
theorem z_d_isAtOrUnder_0 : decode b_d_isAtOrUnder 0 = .ok (.iload_n 1, 1) := by decide +kernel
theorem z_d_isAtOrUnder_1 : decode b_d_isAtOrUnder 1 = .ok (.istore_n 3, 1) := by decide +kernel
theorem z_d_isAtOrUnder_2 : decode b_d_isAtOrUnder 2 = .ok (.iconst 0, 1) := by decide +kernel
theorem z_d_isAtOrUnder_3 : decode b_d_isAtOrUnder 3 = .ok (.istore 4, 2) := by decide +kernel
theorem z_d_isAtOrUnder_5 : decode b_d_isAtOrUnder 5 = .ok (.iload 4, 2) := by decide +kernel
theorem z_d_isAtOrUnder_7 : decode b_d_isAtOrUnder 7 = .ok (.bipush 8, 2) := by decide +kernel
theorem z_d_isAtOrUnder_9 : decode b_d_isAtOrUnder 9 = .ok (.if_icmp .ge 28, 3) := by decide +kernel
theorem z_d_isAtOrUnder_12 : decode b_d_isAtOrUnder 12 = .ok (.iload_n 3, 1) := by decide +kernel
theorem z_d_isAtOrUnder_13 : decode b_d_isAtOrUnder 13 = .ok (.iconst (-1), 1) := by decide +kernel
theorem z_d_isAtOrUnder_14 : decode b_d_isAtOrUnder 14 = .ok (.if_icmp .eq 23, 3) := by decide +kernel
theorem z_d_isAtOrUnder_17 : decode b_d_isAtOrUnder 17 = .ok (.iload_n 3, 1) := by decide +kernel
theorem z_d_isAtOrUnder_18 : decode b_d_isAtOrUnder 18 = .ok (.iload_n 2, 1) := by decide +kernel
theorem z_d_isAtOrUnder_19 : decode b_d_isAtOrUnder 19 = .ok (.if_icmp .ne 5, 3) := by decide +kernel
theorem z_d_isAtOrUnder_22 : decode b_d_isAtOrUnder 22 = .ok (.iconst 1, 1) := by decide +kernel
theorem z_d_isAtOrUnder_23 : decode b_d_isAtOrUnder 23 = .ok (.ireturn, 1) := by decide +kernel
theorem z_d_isAtOrUnder_24 : decode b_d_isAtOrUnder 24 = .ok (.aload_n 0, 1) := by decide +kernel
theorem z_d_isAtOrUnder_25 : decode b_d_isAtOrUnder 25 = .ok (.getfield 9, 3) := by decide +kernel
theorem z_d_isAtOrUnder_28 : decode b_d_isAtOrUnder 28 = .ok (.iload_n 3, 1) := by decide +kernel
theorem z_d_isAtOrUnder_29 : decode b_d_isAtOrUnder 29 = .ok (.iaload, 1) := by decide +kernel
theorem z_d_isAtOrUnder_30 : decode b_d_isAtOrUnder 30 = .ok (.istore_n 3, 1) := by decide +kernel
theorem z_d_isAtOrUnder_31 : decode b_d_isAtOrUnder 31 = .ok (.iinc 4 1, 3) := by decide +kernel
theorem z_d_isAtOrUnder_34 : decode b_d_isAtOrUnder 34 = .ok (.goto (-29), 3) := by decide +kernel
theorem z_d_isAtOrUnder_37 : decode b_d_isAtOrUnder 37 = .ok (.iconst 0, 1) := by decide +kernel
theorem z_d_isAtOrUnder_38 : decode b_d_isAtOrUnder 38 = .ok (.ireturn, 1) := by decide +kernel
theorem z_d_make_0 : decode b_d_make 0 = .ok (.iload_n 1, 1) := by decide +kernel
theorem z_d_make_1 : decode b_d_make 1 = .ok (.invokestatic 40, 3) := by decide +kernel
theorem z_d_make_4 : decode b_d_make 4 = .ok (.ifCond .eq 12, 3) := by decide +kernel
theorem z_d_make_7 : decode b_d_make 7 = .ok (.aload_n 0, 1) := by decide +kernel
theorem z_d_make_8 : decode b_d_make 8 = .ok (.iload_n 1, 1) := by decide +kernel
theorem z_d_make_9 : decode b_d_make 9 = .ok (.iload_n 2, 1) := by decide +kernel
theorem z_d_make_10 : decode b_d_make 10 = .ok (.invokevirtual 63, 3) := by decide +kernel
theorem z_d_make_13 : decode b_d_make 13 = .ok (.ifCond .ne 13, 3) := by decide +kernel
theorem z_d_make_16 : decode b_d_make 16 = .ok (.new 44, 3) := by decide +kernel
theorem z_d_make_19 : decode b_d_make 19 = .ok (.dup, 1) := by decide +kernel
theorem z_d_make_20 : decode b_d_make 20 = .ok (.ldc 66, 2) := by decide +kernel
theorem z_d_make_22 : decode b_d_make 22 = .ok (.invokespecial 48, 3) := by decide +kernel
theorem z_d_make_25 : decode b_d_make 25 = .ok (.athrow, 1) := by decide +kernel
theorem z_d_make_26 : decode b_d_make 26 = .ok (.aload_n 0, 1) := by decide +kernel
theorem z_d_make_27 : decode b_d_make 27 = .ok (.aload_n 0, 1) := by decide +kernel
theorem z_d_make_28 : decode b_d_make 28 = .ok (.getfield 9, 3) := by decide +kernel
theorem z_d_make_31 : decode b_d_make 31 = .ok (.iload_n 1, 1) := by decide +kernel
theorem z_d_make_32 : decode b_d_make 32 = .ok (.iaload, 1) := by decide +kernel
theorem z_d_make_33 : decode b_d_make 33 = .ok (.iload_n 2, 1) := by decide +kernel
theorem z_d_make_34 : decode b_d_make 34 = .ok (.invokevirtual 68, 3) := by decide +kernel
theorem z_d_make_37 : decode b_d_make 37 = .ok (.istore_n 3, 1) := by decide +kernel
theorem z_d_make_38 : decode b_d_make 38 = .ok (.iload_n 3, 1) := by decide +kernel
theorem z_d_make_39 : decode b_d_make 39 = .ok (.iconst (-1), 1) := by decide +kernel
theorem z_d_make_40 : decode b_d_make 40 = .ok (.if_icmp .eq 25, 3) := by decide +kernel
theorem z_d_make_43 : decode b_d_make 43 = .ok (.aload_n 0, 1) := by decide +kernel
theorem z_d_make_44 : decode b_d_make 44 = .ok (.getfield 23, 3) := by decide +kernel
theorem z_d_make_47 : decode b_d_make 47 = .ok (.getfield 72, 3) := by decide +kernel
theorem z_d_make_50 : decode b_d_make 50 = .ok (.iload_n 3, 1) := by decide +kernel
theorem z_d_make_51 : decode b_d_make 51 = .ok (.baload, 1) := by decide +kernel
theorem z_d_make_52 : decode b_d_make 52 = .ok (.ifCond .ne 13, 3) := by decide +kernel
theorem z_d_make_55 : decode b_d_make 55 = .ok (.new 58, 3) := by decide +kernel
theorem z_d_make_58 : decode b_d_make 58 = .ok (.dup, 1) := by decide +kernel
theorem z_d_make_59 : decode b_d_make 59 = .ok (.ldc 76, 2) := by decide +kernel
theorem z_d_make_61 : decode b_d_make 61 = .ok (.invokespecial 62, 3) := by decide +kernel
theorem z_d_make_64 : decode b_d_make 64 = .ok (.athrow, 1) := by decide +kernel
theorem z_d_make_65 : decode b_d_make 65 = .ok (.aload_n 0, 1) := by decide +kernel
theorem z_d_make_66 : decode b_d_make 66 = .ok (.getfield 23, 3) := by decide +kernel
theorem z_d_make_69 : decode b_d_make 69 = .ok (.getfield 51, 3) := by decide +kernel
theorem z_d_make_72 : decode b_d_make 72 = .ok (.iload_n 1, 1) := by decide +kernel
theorem z_d_make_73 : decode b_d_make 73 = .ok (.iaload, 1) := by decide +kernel
theorem z_d_make_74 : decode b_d_make 74 = .ok (.bipush 30, 2) := by decide +kernel
theorem z_d_make_76 : decode b_d_make 76 = .ok (.if_icmp .lt 13, 3) := by decide +kernel
theorem z_d_make_79 : decode b_d_make 79 = .ok (.new 78, 3) := by decide +kernel
theorem z_d_make_82 : decode b_d_make 82 = .ok (.dup, 1) := by decide +kernel
theorem z_d_make_83 : decode b_d_make 83 = .ok (.ldc 80, 2) := by decide +kernel
theorem z_d_make_85 : decode b_d_make 85 = .ok (.invokespecial 82, 3) := by decide +kernel
theorem z_d_make_88 : decode b_d_make 88 = .ok (.athrow, 1) := by decide +kernel
theorem z_d_make_89 : decode b_d_make 89 = .ok (.aload_n 0, 1) := by decide +kernel
theorem z_d_make_90 : decode b_d_make 90 = .ok (.getfield 23, 3) := by decide +kernel
theorem z_d_make_93 : decode b_d_make 93 = .ok (.iload_n 1, 1) := by decide +kernel
theorem z_d_make_94 : decode b_d_make 94 = .ok (.iload_n 2, 1) := by decide +kernel
theorem z_d_make_95 : decode b_d_make 95 = .ok (.invokevirtual 83, 3) := by decide +kernel
theorem z_d_make_98 : decode b_d_make 98 = .ok (.ireturn, 1) := by decide +kernel
theorem z_d_canBeAbove_0 : decode b_d_canBeAbove 0 = .ok (.aload_n 0, 1) := by decide +kernel
theorem z_d_canBeAbove_1 : decode b_d_canBeAbove 1 = .ok (.getfield 9, 3) := by decide +kernel
theorem z_d_canBeAbove_4 : decode b_d_canBeAbove 4 = .ok (.iload_n 1, 1) := by decide +kernel
theorem z_d_canBeAbove_5 : decode b_d_canBeAbove 5 = .ok (.iaload, 1) := by decide +kernel
theorem z_d_canBeAbove_6 : decode b_d_canBeAbove 6 = .ok (.istore_n 3, 1) := by decide +kernel
theorem z_d_canBeAbove_7 : decode b_d_canBeAbove 7 = .ok (.iload_n 3, 1) := by decide +kernel
theorem z_d_canBeAbove_8 : decode b_d_canBeAbove 8 = .ok (.iconst (-1), 1) := by decide +kernel
theorem z_d_canBeAbove_9 : decode b_d_canBeAbove 9 = .ok (.if_icmp .ne 16, 3) := by decide +kernel
theorem z_d_canBeAbove_12 : decode b_d_canBeAbove 12 = .ok (.iload_n 2, 1) := by decide +kernel
theorem z_d_canBeAbove_13 : decode b_d_canBeAbove 13 = .ok (.iconst (-1), 1) := by decide +kernel
theorem z_d_canBeAbove_14 : decode b_d_canBeAbove 14 = .ok (.if_icmp .ne 7, 3) := by decide +kernel
theorem z_d_canBeAbove_17 : decode b_d_canBeAbove 17 = .ok (.iconst 1, 1) := by decide +kernel
theorem z_d_canBeAbove_18 : decode b_d_canBeAbove 18 = .ok (.goto 13, 3) := by decide +kernel
theorem z_d_canBeAbove_21 : decode b_d_canBeAbove 21 = .ok (.iconst 0, 1) := by decide +kernel
theorem z_d_canBeAbove_22 : decode b_d_canBeAbove 22 = .ok (.goto 9, 3) := by decide +kernel
theorem z_d_canBeAbove_25 : decode b_d_canBeAbove 25 = .ok (.aload_n 0, 1) := by decide +kernel
theorem z_d_canBeAbove_26 : decode b_d_canBeAbove 26 = .ok (.iload_n 3, 1) := by decide +kernel
theorem z_d_canBeAbove_27 : decode b_d_canBeAbove 27 = .ok (.iload_n 2, 1) := by decide +kernel
theorem z_d_canBeAbove_28 : decode b_d_canBeAbove 28 = .ok (.invokevirtual 132, 3) := by decide +kernel
theorem z_d_canBeAbove_31 : decode b_d_canBeAbove 31 = .ok (.ireturn, 1) := by decide +kernel
theorem z_d_isSubject_0 : decode b_d_isSubject 0 = .ok (.iload_n 1, 1) := by decide +kernel
theorem z_d_isSubject_1 : decode b_d_isSubject 1 = .ok (.invokestatic 40, 3) := by decide +kernel
theorem z_d_isSubject_4 : decode b_d_isSubject 4 = .ok (.ifCond .eq 24, 3) := by decide +kernel
theorem z_d_isSubject_7 : decode b_d_isSubject 7 = .ok (.iload_n 2, 1) := by decide +kernel
theorem z_d_isSubject_8 : decode b_d_isSubject 8 = .ok (.ifCond .lt 20, 3) := by decide +kernel
theorem z_d_isSubject_11 : decode b_d_isSubject 11 = .ok (.iload_n 2, 1) := by decide +kernel
theorem z_d_isSubject_12 : decode b_d_isSubject 12 = .ok (.aload_n 0, 1) := by decide +kernel
theorem z_d_isSubject_13 : decode b_d_isSubject 13 = .ok (.getfield 23, 3) := by decide +kernel
theorem z_d_isSubject_16 : decode b_d_isSubject 16 = .ok (.getfield 51, 3) := by decide +kernel
theorem z_d_isSubject_19 : decode b_d_isSubject 19 = .ok (.iload_n 1, 1) := by decide +kernel
theorem z_d_isSubject_20 : decode b_d_isSubject 20 = .ok (.iaload, 1) := by decide +kernel
theorem z_d_isSubject_21 : decode b_d_isSubject 21 = .ok (.if_icmp .ge 7, 3) := by decide +kernel
theorem z_d_isSubject_24 : decode b_d_isSubject 24 = .ok (.iconst 1, 1) := by decide +kernel
theorem z_d_isSubject_25 : decode b_d_isSubject 25 = .ok (.goto 4, 3) := by decide +kernel
theorem z_d_isSubject_28 : decode b_d_isSubject 28 = .ok (.iconst 0, 1) := by decide +kernel
theorem z_d_isSubject_29 : decode b_d_isSubject 29 = .ok (.ireturn, 1) := by decide +kernel
theorem z_d_slotOrNone_0 : decode b_d_slotOrNone 0 = .ok (.aload_n 0, 1) := by decide +kernel
theorem z_d_slotOrNone_1 : decode b_d_slotOrNone 1 = .ok (.iload_n 1, 1) := by decide +kernel
theorem z_d_slotOrNone_2 : decode b_d_slotOrNone 2 = .ok (.iload_n 2, 1) := by decide +kernel
theorem z_d_slotOrNone_3 : decode b_d_slotOrNone 3 = .ok (.invokevirtual 132, 3) := by decide +kernel
theorem z_d_slotOrNone_6 : decode b_d_slotOrNone 6 = .ok (.ifCond .eq 11, 3) := by decide +kernel
theorem z_d_slotOrNone_9 : decode b_d_slotOrNone 9 = .ok (.iload_n 1, 1) := by decide +kernel
theorem z_d_slotOrNone_10 : decode b_d_slotOrNone 10 = .ok (.iload_n 2, 1) := by decide +kernel
theorem z_d_slotOrNone_11 : decode b_d_slotOrNone 11 = .ok (.invokestatic 139, 3) := by decide +kernel
theorem z_d_slotOrNone_14 : decode b_d_slotOrNone 14 = .ok (.goto 4, 3) := by decide +kernel
theorem z_d_slotOrNone_17 : decode b_d_slotOrNone 17 = .ok (.iconst (-1), 1) := by decide +kernel
theorem z_d_slotOrNone_18 : decode b_d_slotOrNone 18 = .ok (.ireturn, 1) := by decide +kernel
theorem z_s_add_0 : decode b_s_add 0 = .ok (.aload_n 0, 1) := by decide +kernel
theorem z_s_add_1 : decode b_s_add 1 = .ok (.getfield 9, 3) := by decide +kernel
theorem z_s_add_4 : decode b_s_add 4 = .ok (.iload_n 1, 1) := by decide +kernel
theorem z_s_add_5 : decode b_s_add 5 = .ok (.iaload, 1) := by decide +kernel
theorem z_s_add_6 : decode b_s_add 6 = .ok (.istore_n 3, 1) := by decide +kernel
theorem z_s_add_7 : decode b_s_add 7 = .ok (.iload_n 1, 1) := by decide +kernel
theorem z_s_add_8 : decode b_s_add 8 = .ok (.iload_n 3, 1) := by decide +kernel
theorem z_s_add_9 : decode b_s_add 9 = .ok (.invokestatic 32, 3) := by decide +kernel
theorem z_s_add_12 : decode b_s_add 12 = .ok (.istore 4, 2) := by decide +kernel
theorem z_s_add_14 : decode b_s_add 14 = .ok (.aload_n 0, 1) := by decide +kernel
theorem z_s_add_15 : decode b_s_add 15 = .ok (.getfield 15, 3) := by decide +kernel
theorem z_s_add_18 : decode b_s_add 18 = .ok (.iload 4, 2) := by decide +kernel
theorem z_s_add_20 : decode b_s_add 20 = .ok (.iload_n 2, 1) := by decide +kernel
theorem z_s_add_21 : decode b_s_add 21 = .ok (.iastore, 1) := by decide +kernel
theorem z_s_add_22 : decode b_s_add 22 = .ok (.aload_n 0, 1) := by decide +kernel
theorem z_s_add_23 : decode b_s_add 23 = .ok (.getfield 18, 3) := by decide +kernel
theorem z_s_add_26 : decode b_s_add 26 = .ok (.iload 4, 2) := by decide +kernel
theorem z_s_add_28 : decode b_s_add 28 = .ok (.iconst 1, 1) := by decide +kernel
theorem z_s_add_29 : decode b_s_add 29 = .ok (.bastore, 1) := by decide +kernel
theorem z_s_add_30 : decode b_s_add 30 = .ok (.aload_n 0, 1) := by decide +kernel
theorem z_s_add_31 : decode b_s_add 31 = .ok (.getfield 9, 3) := by decide +kernel
theorem z_s_add_34 : decode b_s_add 34 = .ok (.iload_n 1, 1) := by decide +kernel
theorem z_s_add_35 : decode b_s_add 35 = .ok (.iload_n 3, 1) := by decide +kernel
theorem z_s_add_36 : decode b_s_add 36 = .ok (.iconst 1, 1) := by decide +kernel
theorem z_s_add_37 : decode b_s_add 37 = .ok (.iadd, 1) := by decide +kernel
theorem z_s_add_38 : decode b_s_add 38 = .ok (.iastore, 1) := by decide +kernel
theorem z_s_add_39 : decode b_s_add 39 = .ok (.iload_n 3, 1) := by decide +kernel
theorem z_s_add_40 : decode b_s_add 40 = .ok (.ireturn, 1) := by decide +kernel
theorem z_d_verb_0 : decode b_d_verb 0 = .ok (.iload_n 1, 1) := by decide +kernel
theorem z_d_verb_1 : decode b_d_verb 1 = .ok (.invokestatic 40, 3) := by decide +kernel
theorem z_d_verb_4 : decode b_d_verb 4 = .ok (.ifCond .eq 20, 3) := by decide +kernel
theorem z_d_verb_7 : decode b_d_verb 7 = .ok (.iload_n 2, 1) := by decide +kernel
theorem z_d_verb_8 : decode b_d_verb 8 = .ok (.invokestatic 86, 3) := by decide +kernel
theorem z_d_verb_11 : decode b_d_verb 11 = .ok (.ifCond .eq 13, 3) := by decide +kernel
theorem z_d_verb_14 : decode b_d_verb 14 = .ok (.iload_n 3, 1) := by decide +kernel
theorem z_d_verb_15 : decode b_d_verb 15 = .ok (.ifCond .lt 9, 3) := by decide +kernel
theorem z_d_verb_18 : decode b_d_verb 18 = .ok (.iload_n 3, 1) := by decide +kernel
theorem z_d_verb_19 : decode b_d_verb 19 = .ok (.bipush 8, 2) := by decide +kernel
theorem z_d_verb_21 : decode b_d_verb 21 = .ok (.if_icmp .lt 13, 3) := by decide +kernel
theorem z_d_verb_24 : decode b_d_verb 24 = .ok (.new 44, 3) := by decide +kernel
theorem z_d_verb_27 : decode b_d_verb 27 = .ok (.dup, 1) := by decide +kernel
theorem z_d_verb_28 : decode b_d_verb 28 = .ok (.ldc 89, 2) := by decide +kernel
theorem z_d_verb_30 : decode b_d_verb 30 = .ok (.invokespecial 48, 3) := by decide +kernel
theorem z_d_verb_33 : decode b_d_verb 33 = .ok (.athrow, 1) := by decide +kernel
theorem z_d_verb_34 : decode b_d_verb 34 = .ok (.iload 4, 2) := by decide +kernel
theorem z_d_verb_36 : decode b_d_verb 36 = .ok (.i2l, 1) := by decide +kernel
theorem z_d_verb_37 : decode b_d_verb 37 = .ok (.ldc2_w 91, 3) := by decide +kernel
theorem z_d_verb_40 : decode b_d_verb 40 = .ok (.invokestatic 93, 3) := by decide +kernel
theorem z_d_verb_43 : decode b_d_verb 43 = .ok (.ifCond .eq 15, 3) := by decide +kernel
theorem z_d_verb_46 : decode b_d_verb 46 = .ok (.iload 5, 2) := by decide +kernel
theorem z_d_verb_48 : decode b_d_verb 48 = .ok (.i2l, 1) := by decide +kernel
theorem z_d_verb_49 : decode b_d_verb 49 = .ok (.ldc2_w 91, 3) := by decide +kernel
theorem z_d_verb_52 : decode b_d_verb 52 = .ok (.invokestatic 93, 3) := by decide +kernel
theorem z_d_verb_55 : decode b_d_verb 55 = .ok (.ifCond .ne 13, 3) := by decide +kernel
theorem z_d_verb_58 : decode b_d_verb 58 = .ok (.new 97, 3) := by decide +kernel
theorem z_d_verb_61 : decode b_d_verb 61 = .ok (.dup, 1) := by decide +kernel
theorem z_d_verb_62 : decode b_d_verb 62 = .ok (.ldc 99, 2) := by decide +kernel
theorem z_d_verb_64 : decode b_d_verb 64 = .ok (.invokespecial 101, 3) := by decide +kernel
theorem z_d_verb_67 : decode b_d_verb 67 = .ok (.athrow, 1) := by decide +kernel
theorem z_d_verb_68 : decode b_d_verb 68 = .ok (.aload_n 0, 1) := by decide +kernel
theorem z_d_verb_69 : decode b_d_verb 69 = .ok (.getfield 16, 3) := by decide +kernel
theorem z_d_verb_72 : decode b_d_verb 72 = .ok (.iload_n 1, 1) := by decide +kernel
theorem z_d_verb_73 : decode b_d_verb 73 = .ok (.bipush 8, 2) := by decide +kernel
theorem z_d_verb_75 : decode b_d_verb 75 = .ok (.imul, 1) := by decide +kernel
theorem z_d_verb_76 : decode b_d_verb 76 = .ok (.iload_n 2, 1) := by decide +kernel
theorem z_d_verb_77 : decode b_d_verb 77 = .ok (.iadd, 1) := by decide +kernel
theorem z_d_verb_78 : decode b_d_verb 78 = .ok (.iload_n 3, 1) := by decide +kernel
theorem z_d_verb_79 : decode b_d_verb 79 = .ok (.iload 4, 2) := by decide +kernel
theorem z_d_verb_81 : decode b_d_verb 81 = .ok (.iload 5, 2) := by decide +kernel
theorem z_d_verb_83 : decode b_d_verb 83 = .ok (.invokevirtual 102, 3) := by decide +kernel
theorem z_d_verb_86 : decode b_d_verb 86 = .ok (.return_, 1) := by decide +kernel
theorem z_d_isVerb_0 : decode b_d_isVerb 0 = .ok (.iload_n 0, 1) := by decide +kernel
theorem z_d_isVerb_1 : decode b_d_isVerb 1 = .ok (.ifCond .lt 13, 3) := by decide +kernel
theorem z_d_isVerb_4 : decode b_d_isVerb 4 = .ok (.iload_n 0, 1) := by decide +kernel
theorem z_d_isVerb_5 : decode b_d_isVerb 5 = .ok (.bipush 8, 2) := by decide +kernel
theorem z_d_isVerb_7 : decode b_d_isVerb 7 = .ok (.if_icmp .ge 7, 3) := by decide +kernel
theorem z_d_isVerb_10 : decode b_d_isVerb 10 = .ok (.iconst 1, 1) := by decide +kernel
theorem z_d_isVerb_11 : decode b_d_isVerb 11 = .ok (.goto 4, 3) := by decide +kernel
theorem z_d_isVerb_14 : decode b_d_isVerb 14 = .ok (.iconst 0, 1) := by decide +kernel
theorem z_d_isVerb_15 : decode b_d_isVerb 15 = .ok (.ireturn, 1) := by decide +kernel
theorem z_d_isWithin_0 : decode b_d_isWithin 0 = .ok (.lload_n 0, 1) := by decide +kernel
theorem z_d_isWithin_1 : decode b_d_isWithin 1 = .ok (.lload_n 2, 1) := by decide +kernel
theorem z_d_isWithin_2 : decode b_d_isWithin 2 = .ok (.lneg, 1) := by decide +kernel
theorem z_d_isWithin_3 : decode b_d_isWithin 3 = .ok (.lcmp, 1) := by decide +kernel
theorem z_d_isWithin_4 : decode b_d_isWithin 4 = .ok (.ifCond .lt 13, 3) := by decide +kernel
theorem z_d_isWithin_7 : decode b_d_isWithin 7 = .ok (.lload_n 0, 1) := by decide +kernel
theorem z_d_isWithin_8 : decode b_d_isWithin 8 = .ok (.lload_n 2, 1) := by decide +kernel
theorem z_d_isWithin_9 : decode b_d_isWithin 9 = .ok (.lcmp, 1) := by decide +kernel
theorem z_d_isWithin_10 : decode b_d_isWithin 10 = .ok (.ifCond .gt 7, 3) := by decide +kernel
theorem z_d_isWithin_13 : decode b_d_isWithin 13 = .ok (.iconst 1, 1) := by decide +kernel
theorem z_d_isWithin_14 : decode b_d_isWithin 14 = .ok (.goto 4, 3) := by decide +kernel
theorem z_d_isWithin_17 : decode b_d_isWithin 17 = .ok (.iconst 0, 1) := by decide +kernel
theorem z_d_isWithin_18 : decode b_d_isWithin 18 = .ok (.ireturn, 1) := by decide +kernel
theorem z_w_set_0 : decode b_w_set 0 = .ok (.aload_n 0, 1) := by decide +kernel
theorem z_w_set_1 : decode b_w_set 1 = .ok (.getfield 9, 3) := by decide +kernel
theorem z_w_set_4 : decode b_w_set 4 = .ok (.iload_n 1, 1) := by decide +kernel
theorem z_w_set_5 : decode b_w_set 5 = .ok (.iload_n 2, 1) := by decide +kernel
theorem z_w_set_6 : decode b_w_set 6 = .ok (.iastore, 1) := by decide +kernel
theorem z_w_set_7 : decode b_w_set 7 = .ok (.aload_n 0, 1) := by decide +kernel
theorem z_w_set_8 : decode b_w_set 8 = .ok (.getfield 15, 3) := by decide +kernel
theorem z_w_set_11 : decode b_w_set 11 = .ok (.iload_n 1, 1) := by decide +kernel
theorem z_w_set_12 : decode b_w_set 12 = .ok (.iload_n 3, 1) := by decide +kernel
theorem z_w_set_13 : decode b_w_set 13 = .ok (.iastore, 1) := by decide +kernel
theorem z_w_set_14 : decode b_w_set 14 = .ok (.aload_n 0, 1) := by decide +kernel
theorem z_w_set_15 : decode b_w_set 15 = .ok (.getfield 18, 3) := by decide +kernel
theorem z_w_set_18 : decode b_w_set 18 = .ok (.iload_n 1, 1) := by decide +kernel
theorem z_w_set_19 : decode b_w_set 19 = .ok (.iload 4, 2) := by decide +kernel
theorem z_w_set_21 : decode b_w_set 21 = .ok (.iastore, 1) := by decide +kernel
theorem z_w_set_22 : decode b_w_set 22 = .ok (.return_, 1) := by decide +kernel
theorem z_d_call_0 : decode b_d_call 0 = .ok (.aload_n 0, 1) := by decide +kernel
theorem z_d_call_1 : decode b_d_call 1 = .ok (.dup, 1) := by decide +kernel
theorem z_d_call_2 : decode b_d_call 2 = .ok (.getfield 106, 3) := by decide +kernel
theorem z_d_call_5 : decode b_d_call 5 = .ok (.iconst 1, 1) := by decide +kernel
theorem z_d_call_6 : decode b_d_call 6 = .ok (.iadd, 1) := by decide +kernel
theorem z_d_call_7 : decode b_d_call 7 = .ok (.putfield 106, 3) := by decide +kernel
theorem z_d_call_10 : decode b_d_call 10 = .ok (.aload_n 0, 1) := by decide +kernel
theorem z_d_call_11 : decode b_d_call 11 = .ok (.iload_n 1, 1) := by decide +kernel
theorem z_d_call_12 : decode b_d_call 12 = .ok (.iload_n 2, 1) := by decide +kernel
theorem z_d_call_13 : decode b_d_call 13 = .ok (.iload_n 3, 1) := by decide +kernel
theorem z_d_call_14 : decode b_d_call 14 = .ok (.iload 4, 2) := by decide +kernel
theorem z_d_call_16 : decode b_d_call 16 = .ok (.invokevirtual 110, 3) := by decide +kernel
theorem z_d_call_19 : decode b_d_call 19 = .ok (.istore 5, 2) := by decide +kernel
theorem z_d_call_21 : decode b_d_call 21 = .ok (.iload 5, 2) := by decide +kernel
theorem z_d_call_23 : decode b_d_call 23 = .ok (.ifCond .eq 19, 3) := by decide +kernel
theorem z_d_call_26 : decode b_d_call 26 = .ok (.aload_n 0, 1) := by decide +kernel
theorem z_d_call_27 : decode b_d_call 27 = .ok (.getfield 30, 3) := by decide +kernel
theorem z_d_call_30 : decode b_d_call 30 = .ok (.aload_n 0, 1) := by decide +kernel
theorem z_d_call_31 : decode b_d_call 31 = .ok (.getfield 106, 3) := by decide +kernel
theorem z_d_call_34 : decode b_d_call 34 = .ok (.iload_n 1, 1) := by decide +kernel
theorem z_d_call_35 : decode b_d_call 35 = .ok (.iload_n 2, 1) := by decide +kernel
theorem z_d_call_36 : decode b_d_call 36 = .ok (.iload_n 3, 1) := by decide +kernel
theorem z_d_call_37 : decode b_d_call 37 = .ok (.iload 5, 2) := by decide +kernel
theorem z_d_call_39 : decode b_d_call 39 = .ok (.invokevirtual 114, 3) := by decide +kernel
theorem z_d_call_42 : decode b_d_call 42 = .ok (.iload 5, 2) := by decide +kernel
theorem z_d_call_44 : decode b_d_call 44 = .ok (.invokestatic 118, 3) := by decide +kernel
theorem z_d_call_47 : decode b_d_call 47 = .ok (.aload_n 0, 1) := by decide +kernel
theorem z_d_call_48 : decode b_d_call 48 = .ok (.iload_n 1, 1) := by decide +kernel
theorem z_d_call_49 : decode b_d_call 49 = .ok (.iload_n 2, 1) := by decide +kernel
theorem z_d_call_50 : decode b_d_call 50 = .ok (.iload_n 3, 1) := by decide +kernel
theorem z_d_call_51 : decode b_d_call 51 = .ok (.iload 4, 2) := by decide +kernel
theorem z_d_call_53 : decode b_d_call 53 = .ok (.invokevirtual 122, 3) := by decide +kernel
theorem z_d_call_56 : decode b_d_call 56 = .ok (.lstore 6, 2) := by decide +kernel
theorem z_d_call_58 : decode b_d_call 58 = .ok (.lload 6, 2) := by decide +kernel
theorem z_d_call_60 : decode b_d_call 60 = .ok (.ldc2_w 126, 3) := by decide +kernel
theorem z_d_call_63 : decode b_d_call 63 = .ok (.lcmp, 1) := by decide +kernel
theorem z_d_call_64 : decode b_d_call 64 = .ok (.ifCond .ge 27, 3) := by decide +kernel
theorem z_d_call_67 : decode b_d_call 67 = .ok (.aload_n 0, 1) := by decide +kernel
theorem z_d_call_68 : decode b_d_call 68 = .ok (.getfield 30, 3) := by decide +kernel
theorem z_d_call_71 : decode b_d_call 71 = .ok (.aload_n 0, 1) := by decide +kernel
theorem z_d_call_72 : decode b_d_call 72 = .ok (.getfield 106, 3) := by decide +kernel
theorem z_d_call_75 : decode b_d_call 75 = .ok (.iload_n 1, 1) := by decide +kernel
theorem z_d_call_76 : decode b_d_call 76 = .ok (.iload_n 2, 1) := by decide +kernel
theorem z_d_call_77 : decode b_d_call 77 = .ok (.iload_n 3, 1) := by decide +kernel
theorem z_d_call_78 : decode b_d_call 78 = .ok (.ldc2_w 126, 3) := by decide +kernel
theorem z_d_call_81 : decode b_d_call 81 = .ok (.lload 6, 2) := by decide +kernel
theorem z_d_call_83 : decode b_d_call 83 = .ok (.lsub, 1) := by decide +kernel
theorem z_d_call_84 : decode b_d_call 84 = .ok (.l2i, 1) := by decide +kernel
theorem z_d_call_85 : decode b_d_call 85 = .ok (.invokevirtual 114, 3) := by decide +kernel
theorem z_d_call_88 : decode b_d_call 88 = .ok (.goto 12, 3) := by decide +kernel
theorem z_d_call_91 : decode b_d_call 91 = .ok (.aload_n 0, 1) := by decide +kernel
theorem z_d_call_92 : decode b_d_call 92 = .ok (.iload_n 1, 1) := by decide +kernel
theorem z_d_call_93 : decode b_d_call 93 = .ok (.iload_n 2, 1) := by decide +kernel
theorem z_d_call_94 : decode b_d_call 94 = .ok (.iload_n 3, 1) := by decide +kernel
theorem z_d_call_95 : decode b_d_call 95 = .ok (.lload 6, 2) := by decide +kernel
theorem z_d_call_97 : decode b_d_call 97 = .ok (.invokevirtual 128, 3) := by decide +kernel
theorem z_d_call_100 : decode b_d_call 100 = .ok (.lload 6, 2) := by decide +kernel
theorem z_d_call_102 : decode b_d_call 102 = .ok (.lreturn, 1) := by decide +kernel
theorem z_d_refusalOf_0 : decode b_d_refusalOf 0 = .ok (.aload_n 0, 1) := by decide +kernel
theorem z_d_refusalOf_1 : decode b_d_refusalOf 1 = .ok (.iload_n 1, 1) := by decide +kernel
theorem z_d_refusalOf_2 : decode b_d_refusalOf 2 = .ok (.iload_n 2, 1) := by decide +kernel
theorem z_d_refusalOf_3 : decode b_d_refusalOf 3 = .ok (.invokevirtual 132, 3) := by decide +kernel
theorem z_d_refusalOf_6 : decode b_d_refusalOf 6 = .ok (.ifCond .eq 27, 3) := by decide +kernel
theorem z_d_refusalOf_9 : decode b_d_refusalOf 9 = .ok (.iload_n 3, 1) := by decide +kernel
theorem z_d_refusalOf_10 : decode b_d_refusalOf 10 = .ok (.invokestatic 86, 3) := by decide +kernel
theorem z_d_refusalOf_13 : decode b_d_refusalOf 13 = .ok (.ifCond .eq 20, 3) := by decide +kernel
theorem z_d_refusalOf_16 : decode b_d_refusalOf 16 = .ok (.aload_n 0, 1) := by decide +kernel
theorem z_d_refusalOf_17 : decode b_d_refusalOf 17 = .ok (.getfield 16, 3) := by decide +kernel
theorem z_d_refusalOf_20 : decode b_d_refusalOf 20 = .ok (.getfield 208, 3) := by decide +kernel
theorem z_d_refusalOf_23 : decode b_d_refusalOf 23 = .ok (.iload_n 1, 1) := by decide +kernel
theorem z_d_refusalOf_24 : decode b_d_refusalOf 24 = .ok (.bipush 8, 2) := by decide +kernel
theorem z_d_refusalOf_26 : decode b_d_refusalOf 26 = .ok (.imul, 1) := by decide +kernel
theorem z_d_refusalOf_27 : decode b_d_refusalOf 27 = .ok (.iload_n 3, 1) := by decide +kernel
theorem z_d_refusalOf_28 : decode b_d_refusalOf 28 = .ok (.iadd, 1) := by decide +kernel
theorem z_d_refusalOf_29 : decode b_d_refusalOf 29 = .ok (.iaload, 1) := by decide +kernel
theorem z_d_refusalOf_30 : decode b_d_refusalOf 30 = .ok (.ifCond .ne 6, 3) := by decide +kernel
theorem z_d_refusalOf_33 : decode b_d_refusalOf 33 = .ok (.bipush 13, 2) := by decide +kernel
theorem z_d_refusalOf_35 : decode b_d_refusalOf 35 = .ok (.ireturn, 1) := by decide +kernel
theorem z_d_refusalOf_36 : decode b_d_refusalOf 36 = .ok (.iload 4, 2) := by decide +kernel
theorem z_d_refusalOf_38 : decode b_d_refusalOf 38 = .ok (.i2l, 1) := by decide +kernel
theorem z_d_refusalOf_39 : decode b_d_refusalOf 39 = .ok (.ldc2_w 211, 3) := by decide +kernel
theorem z_d_refusalOf_42 : decode b_d_refusalOf 42 = .ok (.invokestatic 93, 3) := by decide +kernel
theorem z_d_refusalOf_45 : decode b_d_refusalOf 45 = .ok (.ifCond .ne 6, 3) := by decide +kernel
theorem z_d_refusalOf_48 : decode b_d_refusalOf 48 = .ok (.bipush 14, 2) := by decide +kernel
theorem z_d_refusalOf_50 : decode b_d_refusalOf 50 = .ok (.ireturn, 1) := by decide +kernel
theorem z_d_refusalOf_51 : decode b_d_refusalOf 51 = .ok (.aload_n 0, 1) := by decide +kernel
theorem z_d_refusalOf_52 : decode b_d_refusalOf 52 = .ok (.getfield 23, 3) := by decide +kernel
theorem z_d_refusalOf_55 : decode b_d_refusalOf 55 = .ok (.getfield 72, 3) := by decide +kernel
theorem z_d_refusalOf_58 : decode b_d_refusalOf 58 = .ok (.iload_n 1, 1) := by decide +kernel
theorem z_d_refusalOf_59 : decode b_d_refusalOf 59 = .ok (.iload_n 2, 1) := by decide +kernel
theorem z_d_refusalOf_60 : decode b_d_refusalOf 60 = .ok (.invokestatic 139, 3) := by decide +kernel
theorem z_d_refusalOf_63 : decode b_d_refusalOf 63 = .ok (.baload, 1) := by decide +kernel
theorem z_d_refusalOf_64 : decode b_d_refusalOf 64 = .ok (.ifCond .eq 7, 3) := by decide +kernel
theorem z_d_refusalOf_67 : decode b_d_refusalOf 67 = .ok (.iconst 0, 1) := by decide +kernel
theorem z_d_refusalOf_68 : decode b_d_refusalOf 68 = .ok (.goto 5, 3) := by decide +kernel
theorem z_d_refusalOf_71 : decode b_d_refusalOf 71 = .ok (.bipush 15, 2) := by decide +kernel
theorem z_d_refusalOf_73 : decode b_d_refusalOf 73 = .ok (.ireturn, 1) := by decide +kernel
theorem z_r_tell_0 : decode b_r_tell 0 = .ok (.aload_n 0, 1) := by decide +kernel
theorem z_r_tell_1 : decode b_r_tell 1 = .ok (.getfield 15, 3) := by decide +kernel
theorem z_r_tell_4 : decode b_r_tell 4 = .ok (.bipush 80, 2) := by decide +kernel
theorem z_r_tell_6 : decode b_r_tell 6 = .ok (.if_icmp .lt 4, 3) := by decide +kernel
theorem z_r_tell_9 : decode b_r_tell 9 = .ok (.return_, 1) := by decide +kernel
theorem z_r_tell_10 : decode b_r_tell 10 = .ok (.aload_n 0, 1) := by decide +kernel
theorem z_r_tell_11 : decode b_r_tell 11 = .ok (.getfield 15, 3) := by decide +kernel
theorem z_r_tell_14 : decode b_r_tell 14 = .ok (.iconst 5, 1) := by decide +kernel
theorem z_r_tell_15 : decode b_r_tell 15 = .ok (.imul, 1) := by decide +kernel
theorem z_r_tell_16 : decode b_r_tell 16 = .ok (.istore 6, 2) := by decide +kernel
theorem z_r_tell_18 : decode b_r_tell 18 = .ok (.aload_n 0, 1) := by decide +kernel
theorem z_r_tell_19 : decode b_r_tell 19 = .ok (.getfield 9, 3) := by decide +kernel
theorem z_r_tell_22 : decode b_r_tell 22 = .ok (.iload 6, 2) := by decide +kernel
theorem z_r_tell_24 : decode b_r_tell 24 = .ok (.iload_n 1, 1) := by decide +kernel
theorem z_r_tell_25 : decode b_r_tell 25 = .ok (.iastore, 1) := by decide +kernel
theorem z_r_tell_26 : decode b_r_tell 26 = .ok (.aload_n 0, 1) := by decide +kernel
theorem z_r_tell_27 : decode b_r_tell 27 = .ok (.getfield 9, 3) := by decide +kernel
theorem z_r_tell_30 : decode b_r_tell 30 = .ok (.iload 6, 2) := by decide +kernel
theorem z_r_tell_32 : decode b_r_tell 32 = .ok (.iconst 1, 1) := by decide +kernel
theorem z_r_tell_33 : decode b_r_tell 33 = .ok (.iadd, 1) := by decide +kernel
theorem z_r_tell_34 : decode b_r_tell 34 = .ok (.iload_n 2, 1) := by decide +kernel
theorem z_r_tell_35 : decode b_r_tell 35 = .ok (.iastore, 1) := by decide +kernel
theorem z_r_tell_36 : decode b_r_tell 36 = .ok (.aload_n 0, 1) := by decide +kernel
theorem z_r_tell_37 : decode b_r_tell 37 = .ok (.getfield 9, 3) := by decide +kernel
theorem z_r_tell_40 : decode b_r_tell 40 = .ok (.iload 6, 2) := by decide +kernel
theorem z_r_tell_42 : decode b_r_tell 42 = .ok (.iconst 2, 1) := by decide +kernel
theorem z_r_tell_43 : decode b_r_tell 43 = .ok (.iadd, 1) := by decide +kernel
theorem z_r_tell_44 : decode b_r_tell 44 = .ok (.iload_n 3, 1) := by decide +kernel
theorem z_r_tell_45 : decode b_r_tell 45 = .ok (.iastore, 1) := by decide +kernel
theorem z_r_tell_46 : decode b_r_tell 46 = .ok (.aload_n 0, 1) := by decide +kernel
theorem z_r_tell_47 : decode b_r_tell 47 = .ok (.getfield 9, 3) := by decide +kernel
theorem z_r_tell_50 : decode b_r_tell 50 = .ok (.iload 6, 2) := by decide +kernel
theorem z_r_tell_52 : decode b_r_tell 52 = .ok (.iconst 3, 1) := by decide +kernel
theorem z_r_tell_53 : decode b_r_tell 53 = .ok (.iadd, 1) := by decide +kernel
theorem z_r_tell_54 : decode b_r_tell 54 = .ok (.iload 4, 2) := by decide +kernel
theorem z_r_tell_56 : decode b_r_tell 56 = .ok (.iastore, 1) := by decide +kernel
theorem z_r_tell_57 : decode b_r_tell 57 = .ok (.aload_n 0, 1) := by decide +kernel
theorem z_r_tell_58 : decode b_r_tell 58 = .ok (.getfield 9, 3) := by decide +kernel
theorem z_r_tell_61 : decode b_r_tell 61 = .ok (.iload 6, 2) := by decide +kernel
theorem z_r_tell_63 : decode b_r_tell 63 = .ok (.iconst 4, 1) := by decide +kernel
theorem z_r_tell_64 : decode b_r_tell 64 = .ok (.iadd, 1) := by decide +kernel
theorem z_r_tell_65 : decode b_r_tell 65 = .ok (.iload 5, 2) := by decide +kernel
theorem z_r_tell_67 : decode b_r_tell 67 = .ok (.iastore, 1) := by decide +kernel
theorem z_r_tell_68 : decode b_r_tell 68 = .ok (.aload_n 0, 1) := by decide +kernel
theorem z_r_tell_69 : decode b_r_tell 69 = .ok (.dup, 1) := by decide +kernel
theorem z_r_tell_70 : decode b_r_tell 70 = .ok (.getfield 15, 3) := by decide +kernel
theorem z_r_tell_73 : decode b_r_tell 73 = .ok (.iconst 1, 1) := by decide +kernel
theorem z_r_tell_74 : decode b_r_tell 74 = .ok (.iadd, 1) := by decide +kernel
theorem z_r_tell_75 : decode b_r_tell 75 = .ok (.putfield 15, 3) := by decide +kernel
theorem z_r_tell_78 : decode b_r_tell 78 = .ok (.return_, 1) := by decide +kernel
theorem z_d_refuse_0 : decode b_d_refuse 0 = .ok (.iload_n 0, 1) := by decide +kernel
theorem z_d_refuse_1 : decode b_d_refuse 1 = .ok (.bipush 13, 2) := by decide +kernel
theorem z_d_refuse_3 : decode b_d_refuse 3 = .ok (.if_icmp .ne 13, 3) := by decide +kernel
theorem z_d_refuse_6 : decode b_d_refuse 6 = .ok (.new 44, 3) := by decide +kernel
theorem z_d_refuse_9 : decode b_d_refuse 9 = .ok (.dup, 1) := by decide +kernel
theorem z_d_refuse_10 : decode b_d_refuse 10 = .ok (.ldc 213, 2) := by decide +kernel
theorem z_d_refuse_12 : decode b_d_refuse 12 = .ok (.invokespecial 48, 3) := by decide +kernel
theorem z_d_refuse_15 : decode b_d_refuse 15 = .ok (.athrow, 1) := by decide +kernel
theorem z_d_refuse_16 : decode b_d_refuse 16 = .ok (.iload_n 0, 1) := by decide +kernel
theorem z_d_refuse_17 : decode b_d_refuse 17 = .ok (.bipush 14, 2) := by decide +kernel
theorem z_d_refuse_19 : decode b_d_refuse 19 = .ok (.if_icmp .ne 13, 3) := by decide +kernel
theorem z_d_refuse_22 : decode b_d_refuse 22 = .ok (.new 97, 3) := by decide +kernel
theorem z_d_refuse_25 : decode b_d_refuse 25 = .ok (.dup, 1) := by decide +kernel
theorem z_d_refuse_26 : decode b_d_refuse 26 = .ok (.ldc 215, 2) := by decide +kernel
theorem z_d_refuse_28 : decode b_d_refuse 28 = .ok (.invokespecial 101, 3) := by decide +kernel
theorem z_d_refuse_31 : decode b_d_refuse 31 = .ok (.athrow, 1) := by decide +kernel
theorem z_d_refuse_32 : decode b_d_refuse 32 = .ok (.iload_n 0, 1) := by decide +kernel
theorem z_d_refuse_33 : decode b_d_refuse 33 = .ok (.bipush 15, 2) := by decide +kernel
theorem z_d_refuse_35 : decode b_d_refuse 35 = .ok (.if_icmp .ne 13, 3) := by decide +kernel
theorem z_d_refuse_38 : decode b_d_refuse 38 = .ok (.new 58, 3) := by decide +kernel
theorem z_d_refuse_41 : decode b_d_refuse 41 = .ok (.dup, 1) := by decide +kernel
theorem z_d_refuse_42 : decode b_d_refuse 42 = .ok (.ldc 142, 2) := by decide +kernel
theorem z_d_refuse_44 : decode b_d_refuse 44 = .ok (.invokespecial 62, 3) := by decide +kernel
theorem z_d_refuse_47 : decode b_d_refuse 47 = .ok (.athrow, 1) := by decide +kernel
theorem z_d_refuse_48 : decode b_d_refuse 48 = .ok (.return_, 1) := by decide +kernel
theorem z_d_answerTo_0 : decode b_d_answerTo 0 = .ok (.iload_n 1, 1) := by decide +kernel
theorem z_d_answerTo_1 : decode b_d_answerTo 1 = .ok (.bipush 8, 2) := by decide +kernel
theorem z_d_answerTo_3 : decode b_d_answerTo 3 = .ok (.imul, 1) := by decide +kernel
theorem z_d_answerTo_4 : decode b_d_answerTo 4 = .ok (.iload_n 3, 1) := by decide +kernel
theorem z_d_answerTo_5 : decode b_d_answerTo 5 = .ok (.iadd, 1) := by decide +kernel
theorem z_d_answerTo_6 : decode b_d_answerTo 6 = .ok (.istore 5, 2) := by decide +kernel
theorem z_d_answerTo_8 : decode b_d_answerTo 8 = .ok (.aload_n 0, 1) := by decide +kernel
theorem z_d_answerTo_9 : decode b_d_answerTo 9 = .ok (.getfield 16, 3) := by decide +kernel
theorem z_d_answerTo_12 : decode b_d_answerTo 12 = .ok (.getfield 217, 3) := by decide +kernel
theorem z_d_answerTo_15 : decode b_d_answerTo 15 = .ok (.iload 5, 2) := by decide +kernel
theorem z_d_answerTo_17 : decode b_d_answerTo 17 = .ok (.iaload, 1) := by decide +kernel
theorem z_d_answerTo_18 : decode b_d_answerTo 18 = .ok (.i2l, 1) := by decide +kernel
theorem z_d_answerTo_19 : decode b_d_answerTo 19 = .ok (.lstore 6, 2) := by decide +kernel
theorem z_d_answerTo_21 : decode b_d_answerTo 21 = .ok (.aload_n 0, 1) := by decide +kernel
theorem z_d_answerTo_22 : decode b_d_answerTo 22 = .ok (.getfield 16, 3) := by decide +kernel
theorem z_d_answerTo_25 : decode b_d_answerTo 25 = .ok (.getfield 220, 3) := by decide +kernel
theorem z_d_answerTo_28 : decode b_d_answerTo 28 = .ok (.iload 5, 2) := by decide +kernel
theorem z_d_answerTo_30 : decode b_d_answerTo 30 = .ok (.iaload, 1) := by decide +kernel
theorem z_d_answerTo_31 : decode b_d_answerTo 31 = .ok (.i2l, 1) := by decide +kernel
theorem z_d_answerTo_32 : decode b_d_answerTo 32 = .ok (.lstore 8, 2) := by decide +kernel
theorem z_d_answerTo_34 : decode b_d_answerTo 34 = .ok (.aload_n 0, 1) := by decide +kernel
theorem z_d_answerTo_35 : decode b_d_answerTo 35 = .ok (.getfield 23, 3) := by decide +kernel
theorem z_d_answerTo_38 : decode b_d_answerTo 38 = .ok (.getfield 167, 3) := by decide +kernel
theorem z_d_answerTo_41 : decode b_d_answerTo 41 = .ok (.iload_n 1, 1) := by decide +kernel
theorem z_d_answerTo_42 : decode b_d_answerTo 42 = .ok (.iload_n 2, 1) := by decide +kernel
theorem z_d_answerTo_43 : decode b_d_answerTo 43 = .ok (.invokestatic 139, 3) := by decide +kernel
theorem z_d_answerTo_46 : decode b_d_answerTo 46 = .ok (.iaload, 1) := by decide +kernel
theorem z_d_answerTo_47 : decode b_d_answerTo 47 = .ok (.i2l, 1) := by decide +kernel
theorem z_d_answerTo_48 : decode b_d_answerTo 48 = .ok (.lstore 10, 2) := by decide +kernel
theorem z_d_answerTo_50 : decode b_d_answerTo 50 = .ok (.aload_n 0, 1) := by decide +kernel
theorem z_d_answerTo_51 : decode b_d_answerTo 51 = .ok (.getfield 16, 3) := by decide +kernel
theorem z_d_answerTo_54 : decode b_d_answerTo 54 = .ok (.getfield 208, 3) := by decide +kernel
theorem z_d_answerTo_57 : decode b_d_answerTo 57 = .ok (.iload 5, 2) := by decide +kernel
theorem z_d_answerTo_59 : decode b_d_answerTo 59 = .ok (.iaload, 1) := by decide +kernel
theorem z_d_answerTo_60 : decode b_d_answerTo 60 = .ok (.tableswitch 125 1 6 #[40, 49, 65, 78, 91, 112], 40) := by decide +kernel
theorem z_d_answerTo_100 : decode b_d_answerTo 100 = .ok (.lload 6, 2) := by decide +kernel
theorem z_d_answerTo_102 : decode b_d_answerTo 102 = .ok (.iload_n 2, 1) := by decide +kernel
theorem z_d_answerTo_103 : decode b_d_answerTo 103 = .ok (.i2l, 1) := by decide +kernel
theorem z_d_answerTo_104 : decode b_d_answerTo 104 = .ok (.lmul, 1) := by decide +kernel
theorem z_d_answerTo_105 : decode b_d_answerTo 105 = .ok (.lload 8, 2) := by decide +kernel
theorem z_d_answerTo_107 : decode b_d_answerTo 107 = .ok (.ladd, 1) := by decide +kernel
theorem z_d_answerTo_108 : decode b_d_answerTo 108 = .ok (.lreturn, 1) := by decide +kernel
theorem z_d_answerTo_109 : decode b_d_answerTo 109 = .ok (.lload 10, 2) := by decide +kernel
theorem z_d_answerTo_111 : decode b_d_answerTo 111 = .ok (.iload 4, 2) := by decide +kernel
theorem z_d_answerTo_113 : decode b_d_answerTo 113 = .ok (.i2l, 1) := by decide +kernel
theorem z_d_answerTo_114 : decode b_d_answerTo 114 = .ok (.lload 6, 2) := by decide +kernel
theorem z_d_answerTo_116 : decode b_d_answerTo 116 = .ok (.lmul, 1) := by decide +kernel
theorem z_d_answerTo_117 : decode b_d_answerTo 117 = .ok (.ladd, 1) := by decide +kernel
theorem z_d_answerTo_118 : decode b_d_answerTo 118 = .ok (.lload 8, 2) := by decide +kernel
theorem z_d_answerTo_120 : decode b_d_answerTo 120 = .ok (.ladd, 1) := by decide +kernel
theorem z_d_answerTo_121 : decode b_d_answerTo 121 = .ok (.invokestatic 223, 3) := by decide +kernel
theorem z_d_answerTo_124 : decode b_d_answerTo 124 = .ok (.lreturn, 1) := by decide +kernel
theorem z_d_answerTo_125 : decode b_d_answerTo 125 = .ok (.lload 10, 2) := by decide +kernel
theorem z_d_answerTo_127 : decode b_d_answerTo 127 = .ok (.lload 6, 2) := by decide +kernel
theorem z_d_answerTo_129 : decode b_d_answerTo 129 = .ok (.lmul, 1) := by decide +kernel
theorem z_d_answerTo_130 : decode b_d_answerTo 130 = .ok (.lload 8, 2) := by decide +kernel
theorem z_d_answerTo_132 : decode b_d_answerTo 132 = .ok (.ladd, 1) := by decide +kernel
theorem z_d_answerTo_133 : decode b_d_answerTo 133 = .ok (.iload 4, 2) := by decide +kernel
theorem z_d_answerTo_135 : decode b_d_answerTo 135 = .ok (.i2l, 1) := by decide +kernel
theorem z_d_answerTo_136 : decode b_d_answerTo 136 = .ok (.ladd, 1) := by decide +kernel
theorem z_d_answerTo_137 : decode b_d_answerTo 137 = .ok (.lreturn, 1) := by decide +kernel
theorem z_d_answerTo_138 : decode b_d_answerTo 138 = .ok (.ldc2_w 126, 3) := by decide +kernel
theorem z_d_answerTo_141 : decode b_d_answerTo 141 = .ok (.lconst 1, 1) := by decide +kernel
theorem z_d_answerTo_142 : decode b_d_answerTo 142 = .ok (.lload 6, 2) := by decide +kernel
theorem z_d_answerTo_144 : decode b_d_answerTo 144 = .ok (.ldc2_w 227, 3) := by decide +kernel
theorem z_d_answerTo_147 : decode b_d_answerTo 147 = .ok (.land, 1) := by decide +kernel
theorem z_d_answerTo_148 : decode b_d_answerTo 148 = .ok (.ladd, 1) := by decide +kernel
theorem z_d_answerTo_149 : decode b_d_answerTo 149 = .ok (.lsub, 1) := by decide +kernel
theorem z_d_answerTo_150 : decode b_d_answerTo 150 = .ok (.lreturn, 1) := by decide +kernel
theorem z_d_answerTo_151 : decode b_d_answerTo 151 = .ok (.iload 4, 2) := by decide +kernel
theorem z_d_answerTo_153 : decode b_d_answerTo 153 = .ok (.ifCond .ne 9, 3) := by decide +kernel
theorem z_d_answerTo_156 : decode b_d_answerTo 156 = .ok (.ldc2_w 229, 3) := by decide +kernel
theorem z_d_answerTo_159 : decode b_d_answerTo 159 = .ok (.goto 12, 3) := by decide +kernel
theorem z_d_answerTo_162 : decode b_d_answerTo 162 = .ok (.lload 10, 2) := by decide +kernel
theorem z_d_answerTo_164 : decode b_d_answerTo 164 = .ok (.iload 4, 2) := by decide +kernel
theorem z_d_answerTo_166 : decode b_d_answerTo 166 = .ok (.i2l, 1) := by decide +kernel
theorem z_d_answerTo_167 : decode b_d_answerTo 167 = .ok (.ldiv, 1) := by decide +kernel
theorem z_d_answerTo_168 : decode b_d_answerTo 168 = .ok (.lload 8, 2) := by decide +kernel
theorem z_d_answerTo_170 : decode b_d_answerTo 170 = .ok (.ladd, 1) := by decide +kernel
theorem z_d_answerTo_171 : decode b_d_answerTo 171 = .ok (.lreturn, 1) := by decide +kernel
theorem z_d_answerTo_172 : decode b_d_answerTo 172 = .ok (.aload_n 0, 1) := by decide +kernel
theorem z_d_answerTo_173 : decode b_d_answerTo 173 = .ok (.aload_n 0, 1) := by decide +kernel
theorem z_d_answerTo_174 : decode b_d_answerTo 174 = .ok (.iload_n 1, 1) := by decide +kernel
theorem z_d_answerTo_175 : decode b_d_answerTo 175 = .ok (.iload_n 2, 1) := by decide +kernel
theorem z_d_answerTo_176 : decode b_d_answerTo 176 = .ok (.invokevirtual 231, 3) := by decide +kernel
theorem z_d_answerTo_179 : decode b_d_answerTo 179 = .ok (.iload 4, 2) := by decide +kernel
theorem z_d_answerTo_181 : decode b_d_answerTo 181 = .ok (.invokevirtual 234, 3) := by decide +kernel
theorem z_d_answerTo_184 : decode b_d_answerTo 184 = .ok (.lreturn, 1) := by decide +kernel
theorem z_d_answerTo_185 : decode b_d_answerTo 185 = .ok (.aload_n 0, 1) := by decide +kernel
theorem z_d_answerTo_186 : decode b_d_answerTo 186 = .ok (.iload_n 1, 1) := by decide +kernel
theorem z_d_answerTo_187 : decode b_d_answerTo 187 = .ok (.iload_n 2, 1) := by decide +kernel
theorem z_d_answerTo_188 : decode b_d_answerTo 188 = .ok (.invokevirtual 238, 3) := by decide +kernel
theorem z_d_answerTo_191 : decode b_d_answerTo 191 = .ok (.lreturn, 1) := by decide +kernel
theorem z_d_sumOrFailure_0 : decode b_d_sumOrFailure 0 = .ok (.lload_n 0, 1) := by decide +kernel
theorem z_d_sumOrFailure_1 : decode b_d_sumOrFailure 1 = .ok (.ldc2_w 241, 3) := by decide +kernel
theorem z_d_sumOrFailure_4 : decode b_d_sumOrFailure 4 = .ok (.invokestatic 93, 3) := by decide +kernel
theorem z_d_sumOrFailure_7 : decode b_d_sumOrFailure 7 = .ok (.ifCond .eq 7, 3) := by decide +kernel
theorem z_d_sumOrFailure_10 : decode b_d_sumOrFailure 10 = .ok (.lload_n 0, 1) := by decide +kernel
theorem z_d_sumOrFailure_11 : decode b_d_sumOrFailure 11 = .ok (.goto 6, 3) := by decide +kernel
theorem z_d_sumOrFailure_14 : decode b_d_sumOrFailure 14 = .ok (.ldc2_w 243, 3) := by decide +kernel
theorem z_d_sumOrFailure_17 : decode b_d_sumOrFailure 17 = .ok (.lreturn, 1) := by decide +kernel
theorem z_d_slotAbove_0 : decode b_d_slotAbove 0 = .ok (.aload_n 0, 1) := by decide +kernel
theorem z_d_slotAbove_1 : decode b_d_slotAbove 1 = .ok (.aload_n 0, 1) := by decide +kernel
theorem z_d_slotAbove_2 : decode b_d_slotAbove 2 = .ok (.getfield 9, 3) := by decide +kernel
theorem z_d_slotAbove_5 : decode b_d_slotAbove 5 = .ok (.iload_n 1, 1) := by decide +kernel
theorem z_d_slotAbove_6 : decode b_d_slotAbove 6 = .ok (.iaload, 1) := by decide +kernel
theorem z_d_slotAbove_7 : decode b_d_slotAbove 7 = .ok (.aload_n 0, 1) := by decide +kernel
theorem z_d_slotAbove_8 : decode b_d_slotAbove 8 = .ok (.getfield 23, 3) := by decide +kernel
theorem z_d_slotAbove_11 : decode b_d_slotAbove 11 = .ok (.getfield 164, 3) := by decide +kernel
theorem z_d_slotAbove_14 : decode b_d_slotAbove 14 = .ok (.iload_n 1, 1) := by decide +kernel
theorem z_d_slotAbove_15 : decode b_d_slotAbove 15 = .ok (.iload_n 2, 1) := by decide +kernel
theorem z_d_slotAbove_16 : decode b_d_slotAbove 16 = .ok (.invokestatic 139, 3) := by decide +kernel
theorem z_d_slotAbove_19 : decode b_d_slotAbove 19 = .ok (.iaload, 1) := by decide +kernel
theorem z_d_slotAbove_20 : decode b_d_slotAbove 20 = .ok (.invokevirtual 68, 3) := by decide +kernel
theorem z_d_slotAbove_23 : decode b_d_slotAbove 23 = .ok (.ireturn, 1) := by decide +kernel
theorem z_d_answerToPass_0 : decode b_d_answerToPass 0 = .ok (.iload_n 1, 1) := by decide +kernel
theorem z_d_answerToPass_1 : decode b_d_answerToPass 1 = .ok (.iconst (-1), 1) := by decide +kernel
theorem z_d_answerToPass_2 : decode b_d_answerToPass 2 = .ok (.if_icmp .ne 7, 3) := by decide +kernel
theorem z_d_answerToPass_5 : decode b_d_answerToPass 5 = .ok (.ldc2_w 245, 3) := by decide +kernel
theorem z_d_answerToPass_8 : decode b_d_answerToPass 8 = .ok (.lreturn, 1) := by decide +kernel
theorem z_d_answerToPass_9 : decode b_d_answerToPass 9 = .ok (.aload_n 0, 1) := by decide +kernel
theorem z_d_answerToPass_10 : decode b_d_answerToPass 10 = .ok (.getfield 23, 3) := by decide +kernel
theorem z_d_answerToPass_13 : decode b_d_answerToPass 13 = .ok (.getfield 167, 3) := by decide +kernel
theorem z_d_answerToPass_16 : decode b_d_answerToPass 16 = .ok (.iload_n 1, 1) := by decide +kernel
theorem z_d_answerToPass_17 : decode b_d_answerToPass 17 = .ok (.iaload, 1) := by decide +kernel
theorem z_d_answerToPass_18 : decode b_d_answerToPass 18 = .ok (.i2l, 1) := by decide +kernel
theorem z_d_answerToPass_19 : decode b_d_answerToPass 19 = .ok (.iload_n 2, 1) := by decide +kernel
theorem z_d_answerToPass_20 : decode b_d_answerToPass 20 = .ok (.i2l, 1) := by decide +kernel
theorem z_d_answerToPass_21 : decode b_d_answerToPass 21 = .ok (.ladd, 1) := by decide +kernel
theorem z_d_answerToPass_22 : decode b_d_answerToPass 22 = .ok (.invokestatic 223, 3) := by decide +kernel
theorem z_d_answerToPass_25 : decode b_d_answerToPass 25 = .ok (.lreturn, 1) := by decide +kernel
theorem z_d_answerToClose_0 : decode b_d_answerToClose 0 = .ok (.aload_n 0, 1) := by decide +kernel
theorem z_d_answerToClose_1 : decode b_d_answerToClose 1 = .ok (.iload_n 1, 1) := by decide +kernel
theorem z_d_answerToClose_2 : decode b_d_answerToClose 2 = .ok (.iload_n 2, 1) := by decide +kernel
theorem z_d_answerToClose_3 : decode b_d_answerToClose 3 = .ok (.invokevirtual 170, 3) := by decide +kernel
theorem z_d_answerToClose_6 : decode b_d_answerToClose 6 = .ok (.ifCond .le 7, 3) := by decide +kernel
theorem z_d_answerToClose_9 : decode b_d_answerToClose 9 = .ok (.ldc2_w 247, 3) := by decide +kernel
theorem z_d_answerToClose_12 : decode b_d_answerToClose 12 = .ok (.lreturn, 1) := by decide +kernel
theorem z_d_answerToClose_13 : decode b_d_answerToClose 13 = .ok (.aload_n 0, 1) := by decide +kernel
theorem z_d_answerToClose_14 : decode b_d_answerToClose 14 = .ok (.getfield 23, 3) := by decide +kernel
theorem z_d_answerToClose_17 : decode b_d_answerToClose 17 = .ok (.iload_n 1, 1) := by decide +kernel
theorem z_d_answerToClose_18 : decode b_d_answerToClose 18 = .ok (.invokevirtual 249, 3) := by decide +kernel
theorem z_d_answerToClose_21 : decode b_d_answerToClose 21 = .ok (.iconst 1, 1) := by decide +kernel
theorem z_d_answerToClose_22 : decode b_d_answerToClose 22 = .ok (.isub, 1) := by decide +kernel
theorem z_d_answerToClose_23 : decode b_d_answerToClose 23 = .ok (.i2l, 1) := by decide +kernel
theorem z_d_answerToClose_24 : decode b_d_answerToClose 24 = .ok (.lreturn, 1) := by decide +kernel
theorem z_d_openOnesUnder_0 : decode b_d_openOnesUnder 0 = .ok (.iconst 0, 1) := by decide +kernel
theorem z_d_openOnesUnder_1 : decode b_d_openOnesUnder 1 = .ok (.istore_n 3, 1) := by decide +kernel
theorem z_d_openOnesUnder_2 : decode b_d_openOnesUnder 2 = .ok (.iconst 0, 1) := by decide +kernel
theorem z_d_openOnesUnder_3 : decode b_d_openOnesUnder 3 = .ok (.istore 4, 2) := by decide +kernel
theorem z_d_openOnesUnder_5 : decode b_d_openOnesUnder 5 = .ok (.iload 4, 2) := by decide +kernel
theorem z_d_openOnesUnder_7 : decode b_d_openOnesUnder 7 = .ok (.bipush 8, 2) := by decide +kernel
theorem z_d_openOnesUnder_9 : decode b_d_openOnesUnder 9 = .ok (.if_icmp .ge 33, 3) := by decide +kernel
theorem z_d_openOnesUnder_12 : decode b_d_openOnesUnder 12 = .ok (.aload_n 0, 1) := by decide +kernel
theorem z_d_openOnesUnder_13 : decode b_d_openOnesUnder 13 = .ok (.getfield 9, 3) := by decide +kernel
theorem z_d_openOnesUnder_16 : decode b_d_openOnesUnder 16 = .ok (.iload 4, 2) := by decide +kernel
theorem z_d_openOnesUnder_18 : decode b_d_openOnesUnder 18 = .ok (.iaload, 1) := by decide +kernel
theorem z_d_openOnesUnder_19 : decode b_d_openOnesUnder 19 = .ok (.iload_n 1, 1) := by decide +kernel
theorem z_d_openOnesUnder_20 : decode b_d_openOnesUnder 20 = .ok (.if_icmp .ne 16, 3) := by decide +kernel
theorem z_d_openOnesUnder_23 : decode b_d_openOnesUnder 23 = .ok (.iload_n 3, 1) := by decide +kernel
theorem z_d_openOnesUnder_24 : decode b_d_openOnesUnder 24 = .ok (.aload_n 0, 1) := by decide +kernel
theorem z_d_openOnesUnder_25 : decode b_d_openOnesUnder 25 = .ok (.getfield 23, 3) := by decide +kernel
theorem z_d_openOnesUnder_28 : decode b_d_openOnesUnder 28 = .ok (.iload 4, 2) := by decide +kernel
theorem z_d_openOnesUnder_30 : decode b_d_openOnesUnder 30 = .ok (.iload_n 2, 1) := by decide +kernel
theorem z_d_openOnesUnder_31 : decode b_d_openOnesUnder 31 = .ok (.invokevirtual 256, 3) := by decide +kernel
theorem z_d_openOnesUnder_34 : decode b_d_openOnesUnder 34 = .ok (.iadd, 1) := by decide +kernel
theorem z_d_openOnesUnder_35 : decode b_d_openOnesUnder 35 = .ok (.istore_n 3, 1) := by decide +kernel
theorem z_d_openOnesUnder_36 : decode b_d_openOnesUnder 36 = .ok (.iinc 4 1, 3) := by decide +kernel
theorem z_d_openOnesUnder_39 : decode b_d_openOnesUnder 39 = .ok (.goto (-34), 3) := by decide +kernel
theorem z_d_openOnesUnder_42 : decode b_d_openOnesUnder 42 = .ok (.iload_n 3, 1) := by decide +kernel
theorem z_d_openOnesUnder_43 : decode b_d_openOnesUnder 43 = .ok (.ireturn, 1) := by decide +kernel
theorem z_s_openUnder_0 : decode b_s_openUnder 0 = .ok (.iconst 0, 1) := by decide +kernel
theorem z_s_openUnder_1 : decode b_s_openUnder 1 = .ok (.istore_n 3, 1) := by decide +kernel
theorem z_s_openUnder_2 : decode b_s_openUnder 2 = .ok (.iconst 0, 1) := by decide +kernel
theorem z_s_openUnder_3 : decode b_s_openUnder 3 = .ok (.istore 4, 2) := by decide +kernel
theorem z_s_openUnder_5 : decode b_s_openUnder 5 = .ok (.iload 4, 2) := by decide +kernel
theorem z_s_openUnder_7 : decode b_s_openUnder 7 = .ok (.aload_n 0, 1) := by decide +kernel
theorem z_s_openUnder_8 : decode b_s_openUnder 8 = .ok (.getfield 9, 3) := by decide +kernel
theorem z_s_openUnder_11 : decode b_s_openUnder 11 = .ok (.iload_n 1, 1) := by decide +kernel
theorem z_s_openUnder_12 : decode b_s_openUnder 12 = .ok (.iaload, 1) := by decide +kernel
theorem z_s_openUnder_13 : decode b_s_openUnder 13 = .ok (.if_icmp .ge 41, 3) := by decide +kernel
theorem z_s_openUnder_16 : decode b_s_openUnder 16 = .ok (.iload_n 1, 1) := by decide +kernel
theorem z_s_openUnder_17 : decode b_s_openUnder 17 = .ok (.iload 4, 2) := by decide +kernel
theorem z_s_openUnder_19 : decode b_s_openUnder 19 = .ok (.invokestatic 32, 3) := by decide +kernel
theorem z_s_openUnder_22 : decode b_s_openUnder 22 = .ok (.istore 5, 2) := by decide +kernel
theorem z_s_openUnder_24 : decode b_s_openUnder 24 = .ok (.aload_n 0, 1) := by decide +kernel
theorem z_s_openUnder_25 : decode b_s_openUnder 25 = .ok (.getfield 18, 3) := by decide +kernel
theorem z_s_openUnder_28 : decode b_s_openUnder 28 = .ok (.iload 5, 2) := by decide +kernel
theorem z_s_openUnder_30 : decode b_s_openUnder 30 = .ok (.baload, 1) := by decide +kernel
theorem z_s_openUnder_31 : decode b_s_openUnder 31 = .ok (.ifCond .eq 17, 3) := by decide +kernel
theorem z_s_openUnder_34 : decode b_s_openUnder 34 = .ok (.aload_n 0, 1) := by decide +kernel
theorem z_s_openUnder_35 : decode b_s_openUnder 35 = .ok (.getfield 15, 3) := by decide +kernel
theorem z_s_openUnder_38 : decode b_s_openUnder 38 = .ok (.iload 5, 2) := by decide +kernel
theorem z_s_openUnder_40 : decode b_s_openUnder 40 = .ok (.iaload, 1) := by decide +kernel
theorem z_s_openUnder_41 : decode b_s_openUnder 41 = .ok (.iload_n 2, 1) := by decide +kernel
theorem z_s_openUnder_42 : decode b_s_openUnder 42 = .ok (.if_icmp .ne 6, 3) := by decide +kernel
theorem z_s_openUnder_45 : decode b_s_openUnder 45 = .ok (.iinc 3 1, 3) := by decide +kernel
theorem z_s_openUnder_48 : decode b_s_openUnder 48 = .ok (.iinc 4 1, 3) := by decide +kernel
theorem z_s_openUnder_51 : decode b_s_openUnder 51 = .ok (.goto (-46), 3) := by decide +kernel
theorem z_s_openUnder_54 : decode b_s_openUnder 54 = .ok (.iload_n 3, 1) := by decide +kernel
theorem z_s_openUnder_55 : decode b_s_openUnder 55 = .ok (.ireturn, 1) := by decide +kernel
theorem z_s_openOf_0 : decode b_s_openOf 0 = .ok (.iconst 0, 1) := by decide +kernel
theorem z_s_openOf_1 : decode b_s_openOf 1 = .ok (.istore_n 2, 1) := by decide +kernel
theorem z_s_openOf_2 : decode b_s_openOf 2 = .ok (.iconst 0, 1) := by decide +kernel
theorem z_s_openOf_3 : decode b_s_openOf 3 = .ok (.istore_n 3, 1) := by decide +kernel
theorem z_s_openOf_4 : decode b_s_openOf 4 = .ok (.iload_n 3, 1) := by decide +kernel
theorem z_s_openOf_5 : decode b_s_openOf 5 = .ok (.aload_n 0, 1) := by decide +kernel
theorem z_s_openOf_6 : decode b_s_openOf 6 = .ok (.getfield 9, 3) := by decide +kernel
theorem z_s_openOf_9 : decode b_s_openOf 9 = .ok (.iload_n 1, 1) := by decide +kernel
theorem z_s_openOf_10 : decode b_s_openOf 10 = .ok (.iaload, 1) := by decide +kernel
theorem z_s_openOf_11 : decode b_s_openOf 11 = .ok (.if_icmp .ge 25, 3) := by decide +kernel
theorem z_s_openOf_14 : decode b_s_openOf 14 = .ok (.aload_n 0, 1) := by decide +kernel
theorem z_s_openOf_15 : decode b_s_openOf 15 = .ok (.getfield 18, 3) := by decide +kernel
theorem z_s_openOf_18 : decode b_s_openOf 18 = .ok (.iload_n 1, 1) := by decide +kernel
theorem z_s_openOf_19 : decode b_s_openOf 19 = .ok (.iload_n 3, 1) := by decide +kernel
theorem z_s_openOf_20 : decode b_s_openOf 20 = .ok (.invokestatic 32, 3) := by decide +kernel
theorem z_s_openOf_23 : decode b_s_openOf 23 = .ok (.baload, 1) := by decide +kernel
theorem z_s_openOf_24 : decode b_s_openOf 24 = .ok (.ifCond .eq 6, 3) := by decide +kernel
theorem z_s_openOf_27 : decode b_s_openOf 27 = .ok (.iinc 2 1, 3) := by decide +kernel
theorem z_s_openOf_30 : decode b_s_openOf 30 = .ok (.iinc 3 1, 3) := by decide +kernel
theorem z_s_openOf_33 : decode b_s_openOf 33 = .ok (.goto (-29), 3) := by decide +kernel
theorem z_s_openOf_36 : decode b_s_openOf 36 = .ok (.iload_n 2, 1) := by decide +kernel
theorem z_s_openOf_37 : decode b_s_openOf 37 = .ok (.ireturn, 1) := by decide +kernel
theorem z_d_carryOut_0 : decode b_d_carryOut 0 = .ok (.aload_n 0, 1) := by decide +kernel
theorem z_d_carryOut_1 : decode b_d_carryOut 1 = .ok (.getfield 16, 3) := by decide +kernel
theorem z_d_carryOut_4 : decode b_d_carryOut 4 = .ok (.getfield 208, 3) := by decide +kernel
theorem z_d_carryOut_7 : decode b_d_carryOut 7 = .ok (.iload_n 1, 1) := by decide +kernel
theorem z_d_carryOut_8 : decode b_d_carryOut 8 = .ok (.bipush 8, 2) := by decide +kernel
theorem z_d_carryOut_10 : decode b_d_carryOut 10 = .ok (.imul, 1) := by decide +kernel
theorem z_d_carryOut_11 : decode b_d_carryOut 11 = .ok (.iload_n 3, 1) := by decide +kernel
theorem z_d_carryOut_12 : decode b_d_carryOut 12 = .ok (.iadd, 1) := by decide +kernel
theorem z_d_carryOut_13 : decode b_d_carryOut 13 = .ok (.iaload, 1) := by decide +kernel
theorem z_d_carryOut_14 : decode b_d_carryOut 14 = .ok (.lookupswitch 80 #[(2, 34), (6, 48), (7, 63)], 34) := by decide +kernel
theorem z_d_carryOut_48 : decode b_d_carryOut 48 = .ok (.aload_n 0, 1) := by decide +kernel
theorem z_d_carryOut_49 : decode b_d_carryOut 49 = .ok (.iload_n 1, 1) := by decide +kernel
theorem z_d_carryOut_50 : decode b_d_carryOut 50 = .ok (.iload_n 2, 1) := by decide +kernel
theorem z_d_carryOut_51 : decode b_d_carryOut 51 = .ok (.invokestatic 139, 3) := by decide +kernel
theorem z_d_carryOut_54 : decode b_d_carryOut 54 = .ok (.lload 4, 2) := by decide +kernel
theorem z_d_carryOut_56 : decode b_d_carryOut 56 = .ok (.invokevirtual 252, 3) := by decide +kernel
theorem z_d_carryOut_59 : decode b_d_carryOut 59 = .ok (.goto 35, 3) := by decide +kernel
theorem z_d_carryOut_62 : decode b_d_carryOut 62 = .ok (.aload_n 0, 1) := by decide +kernel
theorem z_d_carryOut_63 : decode b_d_carryOut 63 = .ok (.aload_n 0, 1) := by decide +kernel
theorem z_d_carryOut_64 : decode b_d_carryOut 64 = .ok (.iload_n 1, 1) := by decide +kernel
theorem z_d_carryOut_65 : decode b_d_carryOut 65 = .ok (.iload_n 2, 1) := by decide +kernel
theorem z_d_carryOut_66 : decode b_d_carryOut 66 = .ok (.invokevirtual 231, 3) := by decide +kernel
theorem z_d_carryOut_69 : decode b_d_carryOut 69 = .ok (.lload 4, 2) := by decide +kernel
theorem z_d_carryOut_71 : decode b_d_carryOut 71 = .ok (.invokevirtual 252, 3) := by decide +kernel
theorem z_d_carryOut_74 : decode b_d_carryOut 74 = .ok (.goto 20, 3) := by decide +kernel
theorem z_d_carryOut_77 : decode b_d_carryOut 77 = .ok (.aload_n 0, 1) := by decide +kernel
theorem z_d_carryOut_78 : decode b_d_carryOut 78 = .ok (.getfield 23, 3) := by decide +kernel
theorem z_d_carryOut_81 : decode b_d_carryOut 81 = .ok (.getfield 72, 3) := by decide +kernel
theorem z_d_carryOut_84 : decode b_d_carryOut 84 = .ok (.iload_n 1, 1) := by decide +kernel
theorem z_d_carryOut_85 : decode b_d_carryOut 85 = .ok (.iload_n 2, 1) := by decide +kernel
theorem z_d_carryOut_86 : decode b_d_carryOut 86 = .ok (.invokestatic 139, 3) := by decide +kernel
theorem z_d_carryOut_89 : decode b_d_carryOut 89 = .ok (.iconst 0, 1) := by decide +kernel
theorem z_d_carryOut_90 : decode b_d_carryOut 90 = .ok (.bastore, 1) := by decide +kernel
theorem z_d_carryOut_91 : decode b_d_carryOut 91 = .ok (.goto 3, 3) := by decide +kernel
theorem z_d_carryOut_94 : decode b_d_carryOut 94 = .ok (.return_, 1) := by decide +kernel
theorem z_d_setSum_0 : decode b_d_setSum 0 = .ok (.iload_n 1, 1) := by decide +kernel
theorem z_d_setSum_1 : decode b_d_setSum 1 = .ok (.iconst (-1), 1) := by decide +kernel
theorem z_d_setSum_2 : decode b_d_setSum 2 = .ok (.if_icmp .eq 14, 3) := by decide +kernel
theorem z_d_setSum_5 : decode b_d_setSum 5 = .ok (.aload_n 0, 1) := by decide +kernel
theorem z_d_setSum_6 : decode b_d_setSum 6 = .ok (.getfield 23, 3) := by decide +kernel
theorem z_d_setSum_9 : decode b_d_setSum 9 = .ok (.getfield 167, 3) := by decide +kernel
theorem z_d_setSum_12 : decode b_d_setSum 12 = .ok (.iload_n 1, 1) := by decide +kernel
theorem z_d_setSum_13 : decode b_d_setSum 13 = .ok (.lload_n 2, 1) := by decide +kernel
theorem z_d_setSum_14 : decode b_d_setSum 14 = .ok (.l2i, 1) := by decide +kernel
theorem z_d_setSum_15 : decode b_d_setSum 15 = .ok (.iastore, 1) := by decide +kernel
theorem z_d_setSum_16 : decode b_d_setSum 16 = .ok (.return_, 1) := by decide +kernel
theorem z_d_simulate_0 : decode b_d_simulate 0 = .ok (.aload_n 0, 1) := by decide +kernel
theorem z_d_simulate_1 : decode b_d_simulate 1 = .ok (.iload_n 1, 1) := by decide +kernel
theorem z_d_simulate_2 : decode b_d_simulate 2 = .ok (.iload_n 2, 1) := by decide +kernel
theorem z_d_simulate_3 : decode b_d_simulate 3 = .ok (.iload_n 3, 1) := by decide +kernel
theorem z_d_simulate_4 : decode b_d_simulate 4 = .ok (.iload 4, 2) := by decide +kernel
theorem z_d_simulate_6 : decode b_d_simulate 6 = .ok (.invokevirtual 110, 3) := by decide +kernel
theorem z_d_simulate_9 : decode b_d_simulate 9 = .ok (.invokestatic 118, 3) := by decide +kernel
theorem z_d_simulate_12 : decode b_d_simulate 12 = .ok (.aload_n 0, 1) := by decide +kernel
theorem z_d_simulate_13 : decode b_d_simulate 13 = .ok (.iload_n 1, 1) := by decide +kernel
theorem z_d_simulate_14 : decode b_d_simulate 14 = .ok (.iload_n 2, 1) := by decide +kernel
theorem z_d_simulate_15 : decode b_d_simulate 15 = .ok (.iload_n 3, 1) := by decide +kernel
theorem z_d_simulate_16 : decode b_d_simulate 16 = .ok (.iload 4, 2) := by decide +kernel
theorem z_d_simulate_18 : decode b_d_simulate 18 = .ok (.invokevirtual 122, 3) := by decide +kernel
theorem z_d_simulate_21 : decode b_d_simulate 21 = .ok (.lreturn, 1) := by decide +kernel
theorem z_d_text_0 : decode b_d_text 0 = .ok (.aload_n 0, 1) := by decide +kernel
theorem z_d_text_1 : decode b_d_text 1 = .ok (.iload_n 1, 1) := by decide +kernel
theorem z_d_text_2 : decode b_d_text 2 = .ok (.iload_n 2, 1) := by decide +kernel
theorem z_d_text_3 : decode b_d_text 3 = .ok (.invokevirtual 132, 3) := by decide +kernel
theorem z_d_text_6 : decode b_d_text 6 = .ok (.ifCond .ne 13, 3) := by decide +kernel
theorem z_d_text_9 : decode b_d_text 9 = .ok (.new 44, 3) := by decide +kernel
theorem z_d_text_12 : decode b_d_text 12 = .ok (.dup, 1) := by decide +kernel
theorem z_d_text_13 : decode b_d_text 13 = .ok (.ldc 135, 2) := by decide +kernel
theorem z_d_text_15 : decode b_d_text 15 = .ok (.invokespecial 48, 3) := by decide +kernel
theorem z_d_text_18 : decode b_d_text 18 = .ok (.athrow, 1) := by decide +kernel
theorem z_d_text_19 : decode b_d_text 19 = .ok (.iload 5, 2) := by decide +kernel
theorem z_d_text_21 : decode b_d_text 21 = .ok (.iconst 1, 1) := by decide +kernel
theorem z_d_text_22 : decode b_d_text 22 = .ok (.if_icmp .lt 10, 3) := by decide +kernel
theorem z_d_text_25 : decode b_d_text 25 = .ok (.iload 5, 2) := by decide +kernel
theorem z_d_text_27 : decode b_d_text 27 = .ok (.bipush 8, 2) := by decide +kernel
theorem z_d_text_29 : decode b_d_text 29 = .ok (.if_icmp .le 13, 3) := by decide +kernel
theorem z_d_text_32 : decode b_d_text 32 = .ok (.new 97, 3) := by decide +kernel
theorem z_d_text_35 : decode b_d_text 35 = .ok (.dup, 1) := by decide +kernel
theorem z_d_text_36 : decode b_d_text 36 = .ok (.ldc 137, 2) := by decide +kernel
theorem z_d_text_38 : decode b_d_text 38 = .ok (.invokespecial 101, 3) := by decide +kernel
theorem z_d_text_41 : decode b_d_text 41 = .ok (.athrow, 1) := by decide +kernel
theorem z_d_text_42 : decode b_d_text 42 = .ok (.iload_n 1, 1) := by decide +kernel
theorem z_d_text_43 : decode b_d_text 43 = .ok (.iload_n 2, 1) := by decide +kernel
theorem z_d_text_44 : decode b_d_text 44 = .ok (.invokestatic 139, 3) := by decide +kernel
theorem z_d_text_47 : decode b_d_text 47 = .ok (.istore 6, 2) := by decide +kernel
theorem z_d_text_49 : decode b_d_text 49 = .ok (.aload_n 0, 1) := by decide +kernel
theorem z_d_text_50 : decode b_d_text 50 = .ok (.getfield 23, 3) := by decide +kernel
theorem z_d_text_53 : decode b_d_text 53 = .ok (.getfield 72, 3) := by decide +kernel
theorem z_d_text_56 : decode b_d_text 56 = .ok (.iload 6, 2) := by decide +kernel
theorem z_d_text_58 : decode b_d_text 58 = .ok (.baload, 1) := by decide +kernel
theorem z_d_text_59 : decode b_d_text 59 = .ok (.ifCond .ne 13, 3) := by decide +kernel
theorem z_d_text_62 : decode b_d_text 62 = .ok (.new 58, 3) := by decide +kernel
theorem z_d_text_65 : decode b_d_text 65 = .ok (.dup, 1) := by decide +kernel
theorem z_d_text_66 : decode b_d_text 66 = .ok (.ldc 142, 2) := by decide +kernel
theorem z_d_text_68 : decode b_d_text 68 = .ok (.invokespecial 62, 3) := by decide +kernel
theorem z_d_text_71 : decode b_d_text 71 = .ok (.athrow, 1) := by decide +kernel
theorem z_d_text_72 : decode b_d_text 72 = .ok (.aload_n 0, 1) := by decide +kernel
theorem z_d_text_73 : decode b_d_text 73 = .ok (.getfield 23, 3) := by decide +kernel
theorem z_d_text_76 : decode b_d_text 76 = .ok (.getfield 144, 3) := by decide +kernel
theorem z_d_text_79 : decode b_d_text 79 = .ok (.iload 6, 2) := by decide +kernel
theorem z_d_text_81 : decode b_d_text 81 = .ok (.iaload, 1) := by decide +kernel
theorem z_d_text_82 : decode b_d_text 82 = .ok (.iload 5, 2) := by decide +kernel
theorem z_d_text_84 : decode b_d_text 84 = .ok (.iadd, 1) := by decide +kernel
theorem z_d_text_85 : decode b_d_text 85 = .ok (.bipush 16, 2) := by decide +kernel
theorem z_d_text_87 : decode b_d_text 87 = .ok (.if_icmp .le 13, 3) := by decide +kernel
theorem z_d_text_90 : decode b_d_text 90 = .ok (.new 78, 3) := by decide +kernel
theorem z_d_text_93 : decode b_d_text 93 = .ok (.dup, 1) := by decide +kernel
theorem z_d_text_94 : decode b_d_text 94 = .ok (.ldc 147, 2) := by decide +kernel
theorem z_d_text_96 : decode b_d_text 96 = .ok (.invokespecial 82, 3) := by decide +kernel
theorem z_d_text_99 : decode b_d_text 99 = .ok (.athrow, 1) := by decide +kernel
theorem z_d_text_100 : decode b_d_text 100 = .ok (.aload_n 0, 1) := by decide +kernel
theorem z_d_text_101 : decode b_d_text 101 = .ok (.getfield 23, 3) := by decide +kernel
theorem z_d_text_104 : decode b_d_text 104 = .ok (.iload 6, 2) := by decide +kernel
theorem z_d_text_106 : decode b_d_text 106 = .ok (.lload_n 3, 1) := by decide +kernel
theorem z_d_text_107 : decode b_d_text 107 = .ok (.iload 5, 2) := by decide +kernel
theorem z_d_text_109 : decode b_d_text 109 = .ok (.invokevirtual 149, 3) := by decide +kernel
theorem z_d_text_112 : decode b_d_text 112 = .ok (.ireturn, 1) := by decide +kernel
theorem z_s_lengthen_0 : decode b_s_lengthen 0 = .ok (.iload_n 1, 1) := by decide +kernel
theorem z_s_lengthen_1 : decode b_s_lengthen 1 = .ok (.bipush 16, 2) := by decide +kernel
theorem z_s_lengthen_3 : decode b_s_lengthen 3 = .ok (.imul, 1) := by decide +kernel
theorem z_s_lengthen_4 : decode b_s_lengthen 4 = .ok (.aload_n 0, 1) := by decide +kernel
theorem z_s_lengthen_5 : decode b_s_lengthen 5 = .ok (.getfield 25, 3) := by decide +kernel
theorem z_s_lengthen_8 : decode b_s_lengthen 8 = .ok (.iload_n 1, 1) := by decide +kernel
theorem z_s_lengthen_9 : decode b_s_lengthen 9 = .ok (.iaload, 1) := by decide +kernel
theorem z_s_lengthen_10 : decode b_s_lengthen 10 = .ok (.iadd, 1) := by decide +kernel
theorem z_s_lengthen_11 : decode b_s_lengthen 11 = .ok (.istore 5, 2) := by decide +kernel
theorem z_s_lengthen_13 : decode b_s_lengthen 13 = .ok (.iconst 0, 1) := by decide +kernel
theorem z_s_lengthen_14 : decode b_s_lengthen 14 = .ok (.istore 6, 2) := by decide +kernel
theorem z_s_lengthen_16 : decode b_s_lengthen 16 = .ok (.iload 6, 2) := by decide +kernel
theorem z_s_lengthen_18 : decode b_s_lengthen 18 = .ok (.iload 4, 2) := by decide +kernel
theorem z_s_lengthen_20 : decode b_s_lengthen 20 = .ok (.if_icmp .ge 28, 3) := by decide +kernel
theorem z_s_lengthen_23 : decode b_s_lengthen 23 = .ok (.aload_n 0, 1) := by decide +kernel
theorem z_s_lengthen_24 : decode b_s_lengthen 24 = .ok (.getfield 28, 3) := by decide +kernel
theorem z_s_lengthen_27 : decode b_s_lengthen 27 = .ok (.iload 5, 2) := by decide +kernel
theorem z_s_lengthen_29 : decode b_s_lengthen 29 = .ok (.iload 6, 2) := by decide +kernel
theorem z_s_lengthen_31 : decode b_s_lengthen 31 = .ok (.iadd, 1) := by decide +kernel
theorem z_s_lengthen_32 : decode b_s_lengthen 32 = .ok (.lload_n 2, 1) := by decide +kernel
theorem z_s_lengthen_33 : decode b_s_lengthen 33 = .ok (.iload 4, 2) := by decide +kernel
theorem z_s_lengthen_35 : decode b_s_lengthen 35 = .ok (.iload 6, 2) := by decide +kernel
theorem z_s_lengthen_37 : decode b_s_lengthen 37 = .ok (.invokestatic 36, 3) := by decide +kernel
theorem z_s_lengthen_40 : decode b_s_lengthen 40 = .ok (.i2b, 1) := by decide +kernel
theorem z_s_lengthen_41 : decode b_s_lengthen 41 = .ok (.bastore, 1) := by decide +kernel
theorem z_s_lengthen_42 : decode b_s_lengthen 42 = .ok (.iinc 6 1, 3) := by decide +kernel
theorem z_s_lengthen_45 : decode b_s_lengthen 45 = .ok (.goto (-29), 3) := by decide +kernel
theorem z_s_lengthen_48 : decode b_s_lengthen 48 = .ok (.aload_n 0, 1) := by decide +kernel
theorem z_s_lengthen_49 : decode b_s_lengthen 49 = .ok (.getfield 25, 3) := by decide +kernel
theorem z_s_lengthen_52 : decode b_s_lengthen 52 = .ok (.iload_n 1, 1) := by decide +kernel
theorem z_s_lengthen_53 : decode b_s_lengthen 53 = .ok (.dup2, 1) := by decide +kernel
theorem z_s_lengthen_54 : decode b_s_lengthen 54 = .ok (.iaload, 1) := by decide +kernel
theorem z_s_lengthen_55 : decode b_s_lengthen 55 = .ok (.iload 4, 2) := by decide +kernel
theorem z_s_lengthen_57 : decode b_s_lengthen 57 = .ok (.iadd, 1) := by decide +kernel
theorem z_s_lengthen_58 : decode b_s_lengthen 58 = .ok (.iastore, 1) := by decide +kernel
theorem z_s_lengthen_59 : decode b_s_lengthen 59 = .ok (.aload_n 0, 1) := by decide +kernel
theorem z_s_lengthen_60 : decode b_s_lengthen 60 = .ok (.getfield 25, 3) := by decide +kernel
theorem z_s_lengthen_63 : decode b_s_lengthen 63 = .ok (.iload_n 1, 1) := by decide +kernel
theorem z_s_lengthen_64 : decode b_s_lengthen 64 = .ok (.iaload, 1) := by decide +kernel
theorem z_s_lengthen_65 : decode b_s_lengthen 65 = .ok (.ireturn, 1) := by decide +kernel
theorem z_s_byteOf_0 : decode b_s_byteOf 0 = .ok (.lload_n 0, 1) := by decide +kernel
theorem z_s_byteOf_1 : decode b_s_byteOf 1 = .ok (.bipush 8, 2) := by decide +kernel
theorem z_s_byteOf_3 : decode b_s_byteOf 3 = .ok (.iload_n 2, 1) := by decide +kernel
theorem z_s_byteOf_4 : decode b_s_byteOf 4 = .ok (.iconst 1, 1) := by decide +kernel
theorem z_s_byteOf_5 : decode b_s_byteOf 5 = .ok (.isub, 1) := by decide +kernel
theorem z_s_byteOf_6 : decode b_s_byteOf 6 = .ok (.iload_n 3, 1) := by decide +kernel
theorem z_s_byteOf_7 : decode b_s_byteOf 7 = .ok (.isub, 1) := by decide +kernel
theorem z_s_byteOf_8 : decode b_s_byteOf 8 = .ok (.imul, 1) := by decide +kernel
theorem z_s_byteOf_9 : decode b_s_byteOf 9 = .ok (.lushr, 1) := by decide +kernel
theorem z_s_byteOf_10 : decode b_s_byteOf 10 = .ok (.l2i, 1) := by decide +kernel
theorem z_s_byteOf_11 : decode b_s_byteOf 11 = .ok (.sipush 255, 3) := by decide +kernel
theorem z_s_byteOf_14 : decode b_s_byteOf 14 = .ok (.iand, 1) := by decide +kernel
theorem z_s_byteOf_15 : decode b_s_byteOf 15 = .ok (.ireturn, 1) := by decide +kernel
theorem z_d_textAt_0 : decode b_d_textAt 0 = .ok (.aload_n 0, 1) := by decide +kernel
theorem z_d_textAt_1 : decode b_d_textAt 1 = .ok (.iload_n 1, 1) := by decide +kernel
theorem z_d_textAt_2 : decode b_d_textAt 2 = .ok (.iload_n 2, 1) := by decide +kernel
theorem z_d_textAt_3 : decode b_d_textAt 3 = .ok (.invokevirtual 132, 3) := by decide +kernel
theorem z_d_textAt_6 : decode b_d_textAt 6 = .ok (.ifCond .ne 13, 3) := by decide +kernel
theorem z_d_textAt_9 : decode b_d_textAt 9 = .ok (.new 44, 3) := by decide +kernel
theorem z_d_textAt_12 : decode b_d_textAt 12 = .ok (.dup, 1) := by decide +kernel
theorem z_d_textAt_13 : decode b_d_textAt 13 = .ok (.ldc 135, 2) := by decide +kernel
theorem z_d_textAt_15 : decode b_d_textAt 15 = .ok (.invokespecial 48, 3) := by decide +kernel
theorem z_d_textAt_18 : decode b_d_textAt 18 = .ok (.athrow, 1) := by decide +kernel
theorem z_d_textAt_19 : decode b_d_textAt 19 = .ok (.iload_n 3, 1) := by decide +kernel
theorem z_d_textAt_20 : decode b_d_textAt 20 = .ok (.ifCond .ge 13, 3) := by decide +kernel
theorem z_d_textAt_23 : decode b_d_textAt 23 = .ok (.new 97, 3) := by decide +kernel
theorem z_d_textAt_26 : decode b_d_textAt 26 = .ok (.dup, 1) := by decide +kernel
theorem z_d_textAt_27 : decode b_d_textAt 27 = .ok (.ldc 153, 2) := by decide +kernel
theorem z_d_textAt_29 : decode b_d_textAt 29 = .ok (.invokespecial 101, 3) := by decide +kernel
theorem z_d_textAt_32 : decode b_d_textAt 32 = .ok (.athrow, 1) := by decide +kernel
theorem z_d_textAt_33 : decode b_d_textAt 33 = .ok (.iload_n 1, 1) := by decide +kernel
theorem z_d_textAt_34 : decode b_d_textAt 34 = .ok (.iload_n 2, 1) := by decide +kernel
theorem z_d_textAt_35 : decode b_d_textAt 35 = .ok (.invokestatic 139, 3) := by decide +kernel
theorem z_d_textAt_38 : decode b_d_textAt 38 = .ok (.istore 4, 2) := by decide +kernel
theorem z_d_textAt_40 : decode b_d_textAt 40 = .ok (.iload_n 3, 1) := by decide +kernel
theorem z_d_textAt_41 : decode b_d_textAt 41 = .ok (.aload_n 0, 1) := by decide +kernel
theorem z_d_textAt_42 : decode b_d_textAt 42 = .ok (.getfield 23, 3) := by decide +kernel
theorem z_d_textAt_45 : decode b_d_textAt 45 = .ok (.getfield 144, 3) := by decide +kernel
theorem z_d_textAt_48 : decode b_d_textAt 48 = .ok (.iload 4, 2) := by decide +kernel
theorem z_d_textAt_50 : decode b_d_textAt 50 = .ok (.iaload, 1) := by decide +kernel
theorem z_d_textAt_51 : decode b_d_textAt 51 = .ok (.if_icmp .ge 16, 3) := by decide +kernel
theorem z_d_textAt_54 : decode b_d_textAt 54 = .ok (.aload_n 0, 1) := by decide +kernel
theorem z_d_textAt_55 : decode b_d_textAt 55 = .ok (.getfield 23, 3) := by decide +kernel
theorem z_d_textAt_58 : decode b_d_textAt 58 = .ok (.iload 4, 2) := by decide +kernel
theorem z_d_textAt_60 : decode b_d_textAt 60 = .ok (.iload_n 3, 1) := by decide +kernel
theorem z_d_textAt_61 : decode b_d_textAt 61 = .ok (.invokevirtual 155, 3) := by decide +kernel
theorem z_d_textAt_64 : decode b_d_textAt 64 = .ok (.goto 4, 3) := by decide +kernel
theorem z_d_textAt_67 : decode b_d_textAt 67 = .ok (.iconst (-1), 1) := by decide +kernel
theorem z_d_textAt_68 : decode b_d_textAt 68 = .ok (.ireturn, 1) := by decide +kernel
theorem z_d_find_0 : decode b_d_find 0 = .ok (.iload_n 1, 1) := by decide +kernel
theorem z_d_find_1 : decode b_d_find 1 = .ok (.invokestatic 40, 3) := by decide +kernel
theorem z_d_find_4 : decode b_d_find 4 = .ok (.ifCond .ne 13, 3) := by decide +kernel
theorem z_d_find_7 : decode b_d_find 7 = .ok (.new 44, 3) := by decide +kernel
theorem z_d_find_10 : decode b_d_find 10 = .ok (.dup, 1) := by decide +kernel
theorem z_d_find_11 : decode b_d_find 11 = .ok (.ldc 46, 2) := by decide +kernel
theorem z_d_find_13 : decode b_d_find 13 = .ok (.invokespecial 48, 3) := by decide +kernel
theorem z_d_find_16 : decode b_d_find 16 = .ok (.athrow, 1) := by decide +kernel
theorem z_d_find_17 : decode b_d_find 17 = .ok (.iload 4, 2) := by decide +kernel
theorem z_d_find_19 : decode b_d_find 19 = .ok (.ifCond .lt 10, 3) := by decide +kernel
theorem z_d_find_22 : decode b_d_find 22 = .ok (.iload 4, 2) := by decide +kernel
theorem z_d_find_24 : decode b_d_find 24 = .ok (.bipush 8, 2) := by decide +kernel
theorem z_d_find_26 : decode b_d_find 26 = .ok (.if_icmp .le 13, 3) := by decide +kernel
theorem z_d_find_29 : decode b_d_find 29 = .ok (.new 97, 3) := by decide +kernel
theorem z_d_find_32 : decode b_d_find 32 = .ok (.dup, 1) := by decide +kernel
theorem z_d_find_33 : decode b_d_find 33 = .ok (.ldc 137, 2) := by decide +kernel
theorem z_d_find_35 : decode b_d_find 35 = .ok (.invokespecial 101, 3) := by decide +kernel
theorem z_d_find_38 : decode b_d_find 38 = .ok (.athrow, 1) := by decide +kernel
theorem z_d_find_39 : decode b_d_find 39 = .ok (.iconst 0, 1) := by decide +kernel
theorem z_d_find_40 : decode b_d_find 40 = .ok (.istore 5, 2) := by decide +kernel
theorem z_d_find_42 : decode b_d_find 42 = .ok (.iload 5, 2) := by decide +kernel
theorem z_d_find_44 : decode b_d_find 44 = .ok (.aload_n 0, 1) := by decide +kernel
theorem z_d_find_45 : decode b_d_find 45 = .ok (.getfield 23, 3) := by decide +kernel
theorem z_d_find_48 : decode b_d_find 48 = .ok (.getfield 51, 3) := by decide +kernel
theorem z_d_find_51 : decode b_d_find 51 = .ok (.iload_n 1, 1) := by decide +kernel
theorem z_d_find_52 : decode b_d_find 52 = .ok (.iaload, 1) := by decide +kernel
theorem z_d_find_53 : decode b_d_find 53 = .ok (.if_icmp .ge 48, 3) := by decide +kernel
theorem z_d_find_56 : decode b_d_find 56 = .ok (.iload_n 1, 1) := by decide +kernel
theorem z_d_find_57 : decode b_d_find 57 = .ok (.iload 5, 2) := by decide +kernel
theorem z_d_find_59 : decode b_d_find 59 = .ok (.invokestatic 139, 3) := by decide +kernel
theorem z_d_find_62 : decode b_d_find 62 = .ok (.istore 6, 2) := by decide +kernel
theorem z_d_find_64 : decode b_d_find 64 = .ok (.aload_n 0, 1) := by decide +kernel
theorem z_d_find_65 : decode b_d_find 65 = .ok (.getfield 23, 3) := by decide +kernel
theorem z_d_find_68 : decode b_d_find 68 = .ok (.getfield 72, 3) := by decide +kernel
theorem z_d_find_71 : decode b_d_find 71 = .ok (.iload 6, 2) := by decide +kernel
theorem z_d_find_73 : decode b_d_find 73 = .ok (.baload, 1) := by decide +kernel
theorem z_d_find_74 : decode b_d_find 74 = .ok (.ifCond .eq 21, 3) := by decide +kernel
theorem z_d_find_77 : decode b_d_find 77 = .ok (.aload_n 0, 1) := by decide +kernel
theorem z_d_find_78 : decode b_d_find 78 = .ok (.getfield 23, 3) := by decide +kernel
theorem z_d_find_81 : decode b_d_find 81 = .ok (.iload 6, 2) := by decide +kernel
theorem z_d_find_83 : decode b_d_find 83 = .ok (.lload_n 2, 1) := by decide +kernel
theorem z_d_find_84 : decode b_d_find 84 = .ok (.iload 4, 2) := by decide +kernel
theorem z_d_find_86 : decode b_d_find 86 = .ok (.invokevirtual 158, 3) := by decide +kernel
theorem z_d_find_89 : decode b_d_find 89 = .ok (.ifCond .eq 6, 3) := by decide +kernel
theorem z_d_find_92 : decode b_d_find 92 = .ok (.iload 5, 2) := by decide +kernel
theorem z_d_find_94 : decode b_d_find 94 = .ok (.ireturn, 1) := by decide +kernel
theorem z_d_find_95 : decode b_d_find 95 = .ok (.iinc 5 1, 3) := by decide +kernel
theorem z_d_find_98 : decode b_d_find 98 = .ok (.goto (-56), 3) := by decide +kernel
theorem z_d_find_101 : decode b_d_find 101 = .ok (.iconst (-1), 1) := by decide +kernel
theorem z_d_find_102 : decode b_d_find 102 = .ok (.ireturn, 1) := by decide +kernel
theorem z_s_hasJust_0 : decode b_s_hasJust 0 = .ok (.aload_n 0, 1) := by decide +kernel
theorem z_s_hasJust_1 : decode b_s_hasJust 1 = .ok (.getfield 25, 3) := by decide +kernel
theorem z_s_hasJust_4 : decode b_s_hasJust 4 = .ok (.iload_n 1, 1) := by decide +kernel
theorem z_s_hasJust_5 : decode b_s_hasJust 5 = .ok (.iaload, 1) := by decide +kernel
theorem z_s_hasJust_6 : decode b_s_hasJust 6 = .ok (.iload 4, 2) := by decide +kernel
theorem z_s_hasJust_8 : decode b_s_hasJust 8 = .ok (.if_icmp .eq 5, 3) := by decide +kernel
theorem z_s_hasJust_11 : decode b_s_hasJust 11 = .ok (.iconst 0, 1) := by decide +kernel
theorem z_s_hasJust_12 : decode b_s_hasJust 12 = .ok (.ireturn, 1) := by decide +kernel
theorem z_s_hasJust_13 : decode b_s_hasJust 13 = .ok (.iconst 0, 1) := by decide +kernel
theorem z_s_hasJust_14 : decode b_s_hasJust 14 = .ok (.istore 5, 2) := by decide +kernel
theorem z_s_hasJust_16 : decode b_s_hasJust 16 = .ok (.iload 5, 2) := by decide +kernel
theorem z_s_hasJust_18 : decode b_s_hasJust 18 = .ok (.iload 4, 2) := by decide +kernel
theorem z_s_hasJust_20 : decode b_s_hasJust 20 = .ok (.if_icmp .ge 29, 3) := by decide +kernel
theorem z_s_hasJust_23 : decode b_s_hasJust 23 = .ok (.aload_n 0, 1) := by decide +kernel
theorem z_s_hasJust_24 : decode b_s_hasJust 24 = .ok (.iload_n 1, 1) := by decide +kernel
theorem z_s_hasJust_25 : decode b_s_hasJust 25 = .ok (.iload 5, 2) := by decide +kernel
theorem z_s_hasJust_27 : decode b_s_hasJust 27 = .ok (.invokevirtual 40, 3) := by decide +kernel
theorem z_s_hasJust_30 : decode b_s_hasJust 30 = .ok (.lload_n 2, 1) := by decide +kernel
theorem z_s_hasJust_31 : decode b_s_hasJust 31 = .ok (.iload 4, 2) := by decide +kernel
theorem z_s_hasJust_33 : decode b_s_hasJust 33 = .ok (.iload 5, 2) := by decide +kernel
theorem z_s_hasJust_35 : decode b_s_hasJust 35 = .ok (.invokestatic 36, 3) := by decide +kernel
theorem z_s_hasJust_38 : decode b_s_hasJust 38 = .ok (.if_icmp .eq 5, 3) := by decide +kernel
theorem z_s_hasJust_41 : decode b_s_hasJust 41 = .ok (.iconst 0, 1) := by decide +kernel
theorem z_s_hasJust_42 : decode b_s_hasJust 42 = .ok (.ireturn, 1) := by decide +kernel
theorem z_s_hasJust_43 : decode b_s_hasJust 43 = .ok (.iinc 5 1, 3) := by decide +kernel
theorem z_s_hasJust_46 : decode b_s_hasJust 46 = .ok (.goto (-30), 3) := by decide +kernel
theorem z_s_hasJust_49 : decode b_s_hasJust 49 = .ok (.iconst 1, 1) := by decide +kernel
theorem z_s_hasJust_50 : decode b_s_hasJust 50 = .ok (.ireturn, 1) := by decide +kernel
theorem z_d_subject_0 : decode b_d_subject 0 = .ok (.aload_n 0, 1) := by decide +kernel
theorem z_d_subject_1 : decode b_d_subject 1 = .ok (.iload_n 1, 1) := by decide +kernel
theorem z_d_subject_2 : decode b_d_subject 2 = .ok (.iload_n 2, 1) := by decide +kernel
theorem z_d_subject_3 : decode b_d_subject 3 = .ok (.invokevirtual 132, 3) := by decide +kernel
theorem z_d_subject_6 : decode b_d_subject 6 = .ok (.ifCond .eq 12, 3) := by decide +kernel
theorem z_d_subject_9 : decode b_d_subject 9 = .ok (.iload_n 3, 1) := by decide +kernel
theorem z_d_subject_10 : decode b_d_subject 10 = .ok (.ifCond .lt 8, 3) := by decide +kernel
theorem z_d_subject_13 : decode b_d_subject 13 = .ok (.iload_n 3, 1) := by decide +kernel
theorem z_d_subject_14 : decode b_d_subject 14 = .ok (.iconst 3, 1) := by decide +kernel
theorem z_d_subject_15 : decode b_d_subject 15 = .ok (.if_icmp .le 13, 3) := by decide +kernel
theorem z_d_subject_18 : decode b_d_subject 18 = .ok (.new 44, 3) := by decide +kernel
theorem z_d_subject_21 : decode b_d_subject 21 = .ok (.dup, 1) := by decide +kernel
theorem z_d_subject_22 : decode b_d_subject 22 = .ok (.ldc 162, 2) := by decide +kernel
theorem z_d_subject_24 : decode b_d_subject 24 = .ok (.invokespecial 48, 3) := by decide +kernel
theorem z_d_subject_27 : decode b_d_subject 27 = .ok (.athrow, 1) := by decide +kernel
theorem z_d_subject_28 : decode b_d_subject 28 = .ok (.iload_n 1, 1) := by decide +kernel
theorem z_d_subject_29 : decode b_d_subject 29 = .ok (.iload_n 2, 1) := by decide +kernel
theorem z_d_subject_30 : decode b_d_subject 30 = .ok (.invokestatic 139, 3) := by decide +kernel
theorem z_d_subject_33 : decode b_d_subject 33 = .ok (.istore 4, 2) := by decide +kernel
theorem z_d_subject_35 : decode b_d_subject 35 = .ok (.iload_n 3, 1) := by decide +kernel
theorem z_d_subject_36 : decode b_d_subject 36 = .ok (.tableswitch 69 0 2 #[28, 39, 58], 28) := by decide +kernel
theorem z_d_subject_64 : decode b_d_subject 64 = .ok (.aload_n 0, 1) := by decide +kernel
theorem z_d_subject_65 : decode b_d_subject 65 = .ok (.getfield 23, 3) := by decide +kernel
theorem z_d_subject_68 : decode b_d_subject 68 = .ok (.getfield 164, 3) := by decide +kernel
theorem z_d_subject_71 : decode b_d_subject 71 = .ok (.iload 4, 2) := by decide +kernel
theorem z_d_subject_73 : decode b_d_subject 73 = .ok (.iaload, 1) := by decide +kernel
theorem z_d_subject_74 : decode b_d_subject 74 = .ok (.ireturn, 1) := by decide +kernel
theorem z_d_subject_75 : decode b_d_subject 75 = .ok (.aload_n 0, 1) := by decide +kernel
theorem z_d_subject_76 : decode b_d_subject 76 = .ok (.getfield 23, 3) := by decide +kernel
theorem z_d_subject_79 : decode b_d_subject 79 = .ok (.getfield 72, 3) := by decide +kernel
theorem z_d_subject_82 : decode b_d_subject 82 = .ok (.iload 4, 2) := by decide +kernel
theorem z_d_subject_84 : decode b_d_subject 84 = .ok (.baload, 1) := by decide +kernel
theorem z_d_subject_85 : decode b_d_subject 85 = .ok (.ifCond .eq 7, 3) := by decide +kernel
theorem z_d_subject_88 : decode b_d_subject 88 = .ok (.iconst 1, 1) := by decide +kernel
theorem z_d_subject_89 : decode b_d_subject 89 = .ok (.goto 4, 3) := by decide +kernel
theorem z_d_subject_92 : decode b_d_subject 92 = .ok (.iconst 0, 1) := by decide +kernel
theorem z_d_subject_93 : decode b_d_subject 93 = .ok (.ireturn, 1) := by decide +kernel
theorem z_d_subject_94 : decode b_d_subject 94 = .ok (.aload_n 0, 1) := by decide +kernel
theorem z_d_subject_95 : decode b_d_subject 95 = .ok (.getfield 23, 3) := by decide +kernel
theorem z_d_subject_98 : decode b_d_subject 98 = .ok (.getfield 167, 3) := by decide +kernel
theorem z_d_subject_101 : decode b_d_subject 101 = .ok (.iload 4, 2) := by decide +kernel
theorem z_d_subject_103 : decode b_d_subject 103 = .ok (.iaload, 1) := by decide +kernel
theorem z_d_subject_104 : decode b_d_subject 104 = .ok (.ireturn, 1) := by decide +kernel
theorem z_d_subject_105 : decode b_d_subject 105 = .ok (.aload_n 0, 1) := by decide +kernel
theorem z_d_subject_106 : decode b_d_subject 106 = .ok (.iload_n 1, 1) := by decide +kernel
theorem z_d_subject_107 : decode b_d_subject 107 = .ok (.iload_n 2, 1) := by decide +kernel
theorem z_d_subject_108 : decode b_d_subject 108 = .ok (.invokevirtual 170, 3) := by decide +kernel
theorem z_d_subject_111 : decode b_d_subject 111 = .ok (.ireturn, 1) := by decide +kernel
theorem z_d_row_0 : decode b_d_row 0 = .ok (.iload_n 1, 1) := by decide +kernel
theorem z_d_row_1 : decode b_d_row 1 = .ok (.ifCond .lt 23, 3) := by decide +kernel
theorem z_d_row_4 : decode b_d_row 4 = .ok (.iload_n 1, 1) := by decide +kernel
theorem z_d_row_5 : decode b_d_row 5 = .ok (.aload_n 0, 1) := by decide +kernel
theorem z_d_row_6 : decode b_d_row 6 = .ok (.getfield 30, 3) := by decide +kernel
theorem z_d_row_9 : decode b_d_row 9 = .ok (.getfield 173, 3) := by decide +kernel
theorem z_d_row_12 : decode b_d_row 12 = .ok (.if_icmp .ge 12, 3) := by decide +kernel
theorem z_d_row_15 : decode b_d_row 15 = .ok (.iload_n 2, 1) := by decide +kernel
theorem z_d_row_16 : decode b_d_row 16 = .ok (.ifCond .lt 8, 3) := by decide +kernel
theorem z_d_row_19 : decode b_d_row 19 = .ok (.iload_n 2, 1) := by decide +kernel
theorem z_d_row_20 : decode b_d_row 20 = .ok (.iconst 5, 1) := by decide +kernel
theorem z_d_row_21 : decode b_d_row 21 = .ok (.if_icmp .lt 13, 3) := by decide +kernel
theorem z_d_row_24 : decode b_d_row 24 = .ok (.new 44, 3) := by decide +kernel
theorem z_d_row_27 : decode b_d_row 27 = .ok (.dup, 1) := by decide +kernel
theorem z_d_row_28 : decode b_d_row 28 = .ok (.ldc 176, 2) := by decide +kernel
theorem z_d_row_30 : decode b_d_row 30 = .ok (.invokespecial 48, 3) := by decide +kernel
theorem z_d_row_33 : decode b_d_row 33 = .ok (.athrow, 1) := by decide +kernel
theorem z_d_row_34 : decode b_d_row 34 = .ok (.aload_n 0, 1) := by decide +kernel
theorem z_d_row_35 : decode b_d_row 35 = .ok (.getfield 30, 3) := by decide +kernel
theorem z_d_row_38 : decode b_d_row 38 = .ok (.getfield 178, 3) := by decide +kernel
theorem z_d_row_41 : decode b_d_row 41 = .ok (.iload_n 1, 1) := by decide +kernel
theorem z_d_row_42 : decode b_d_row 42 = .ok (.iconst 5, 1) := by decide +kernel
theorem z_d_row_43 : decode b_d_row 43 = .ok (.imul, 1) := by decide +kernel
theorem z_d_row_44 : decode b_d_row 44 = .ok (.iload_n 2, 1) := by decide +kernel
theorem z_d_row_45 : decode b_d_row 45 = .ok (.iadd, 1) := by decide +kernel
theorem z_d_row_46 : decode b_d_row 46 = .ok (.iaload, 1) := by decide +kernel
theorem z_d_row_47 : decode b_d_row 47 = .ok (.ireturn, 1) := by decide +kernel
theorem z_d_tick_0 : decode b_d_tick 0 = .ok (.iload_n 1, 1) := by decide +kernel
theorem z_d_tick_1 : decode b_d_tick 1 = .ok (.iconst 1, 1) := by decide +kernel
theorem z_d_tick_2 : decode b_d_tick 2 = .ok (.if_icmp .lt 20, 3) := by decide +kernel
theorem z_d_tick_5 : decode b_d_tick 5 = .ok (.iload_n 1, 1) := by decide +kernel
theorem z_d_tick_6 : decode b_d_tick 6 = .ok (.ldc 181, 2) := by decide +kernel
theorem z_d_tick_8 : decode b_d_tick 8 = .ok (.if_icmp .gt 14, 3) := by decide +kernel
theorem z_d_tick_11 : decode b_d_tick 11 = .ok (.iload_n 1, 1) := by decide +kernel
theorem z_d_tick_12 : decode b_d_tick 12 = .ok (.ldc 182, 2) := by decide +kernel
theorem z_d_tick_14 : decode b_d_tick 14 = .ok (.aload_n 0, 1) := by decide +kernel
theorem z_d_tick_15 : decode b_d_tick 15 = .ok (.getfield 183, 3) := by decide +kernel
theorem z_d_tick_18 : decode b_d_tick 18 = .ok (.isub, 1) := by decide +kernel
theorem z_d_tick_19 : decode b_d_tick 19 = .ok (.if_icmp .le 13, 3) := by decide +kernel
theorem z_d_tick_22 : decode b_d_tick 22 = .ok (.new 97, 3) := by decide +kernel
theorem z_d_tick_25 : decode b_d_tick 25 = .ok (.dup, 1) := by decide +kernel
theorem z_d_tick_26 : decode b_d_tick 26 = .ok (.ldc 186, 2) := by decide +kernel
theorem z_d_tick_28 : decode b_d_tick 28 = .ok (.invokespecial 101, 3) := by decide +kernel
theorem z_d_tick_31 : decode b_d_tick 31 = .ok (.athrow, 1) := by decide +kernel
theorem z_d_tick_32 : decode b_d_tick 32 = .ok (.aload_n 0, 1) := by decide +kernel
theorem z_d_tick_33 : decode b_d_tick 33 = .ok (.dup, 1) := by decide +kernel
theorem z_d_tick_34 : decode b_d_tick 34 = .ok (.getfield 183, 3) := by decide +kernel
theorem z_d_tick_37 : decode b_d_tick 37 = .ok (.iload_n 1, 1) := by decide +kernel
theorem z_d_tick_38 : decode b_d_tick 38 = .ok (.iadd, 1) := by decide +kernel
theorem z_d_tick_39 : decode b_d_tick 39 = .ok (.putfield 183, 3) := by decide +kernel
theorem z_d_tick_42 : decode b_d_tick 42 = .ok (.aload_n 0, 1) := by decide +kernel
theorem z_d_tick_43 : decode b_d_tick 43 = .ok (.getfield 183, 3) := by decide +kernel
theorem z_d_tick_46 : decode b_d_tick 46 = .ok (.ireturn, 1) := by decide +kernel
theorem z_d_count_0 : decode b_d_count 0 = .ok (.iload_n 1, 1) := by decide +kernel
theorem z_d_count_1 : decode b_d_count 1 = .ok (.tableswitch 60 0 3 #[31, 36, 44, 52], 31) := by decide +kernel
theorem z_d_count_32 : decode b_d_count 32 = .ok (.aload_n 0, 1) := by decide +kernel
theorem z_d_count_33 : decode b_d_count 33 = .ok (.getfield 106, 3) := by decide +kernel
theorem z_d_count_36 : decode b_d_count 36 = .ok (.ireturn, 1) := by decide +kernel
theorem z_d_count_37 : decode b_d_count 37 = .ok (.aload_n 0, 1) := by decide +kernel
theorem z_d_count_38 : decode b_d_count 38 = .ok (.getfield 30, 3) := by decide +kernel
theorem z_d_count_41 : decode b_d_count 41 = .ok (.getfield 173, 3) := by decide +kernel
theorem z_d_count_44 : decode b_d_count 44 = .ok (.ireturn, 1) := by decide +kernel
theorem z_d_count_45 : decode b_d_count 45 = .ok (.aload_n 0, 1) := by decide +kernel
theorem z_d_count_46 : decode b_d_count 46 = .ok (.getfield 23, 3) := by decide +kernel
theorem z_d_count_49 : decode b_d_count 49 = .ok (.invokevirtual 188, 3) := by decide +kernel
theorem z_d_count_52 : decode b_d_count 52 = .ok (.ireturn, 1) := by decide +kernel
theorem z_d_count_53 : decode b_d_count 53 = .ok (.aload_n 0, 1) := by decide +kernel
theorem z_d_count_54 : decode b_d_count 54 = .ok (.getfield 23, 3) := by decide +kernel
theorem z_d_count_57 : decode b_d_count 57 = .ok (.invokevirtual 192, 3) := by decide +kernel
theorem z_d_count_60 : decode b_d_count 60 = .ok (.ireturn, 1) := by decide +kernel
theorem z_d_count_61 : decode b_d_count 61 = .ok (.new 44, 3) := by decide +kernel
theorem z_d_count_64 : decode b_d_count 64 = .ok (.dup, 1) := by decide +kernel
theorem z_d_count_65 : decode b_d_count 65 = .ok (.ldc 195, 2) := by decide +kernel
theorem z_d_count_67 : decode b_d_count 67 = .ok (.invokespecial 48, 3) := by decide +kernel
theorem z_d_count_70 : decode b_d_count 70 = .ok (.athrow, 1) := by decide +kernel
theorem z_s_madeInAll_0 : decode b_s_madeInAll 0 = .ok (.iconst 0, 1) := by decide +kernel
theorem z_s_madeInAll_1 : decode b_s_madeInAll 1 = .ok (.istore_n 1, 1) := by decide +kernel
theorem z_s_madeInAll_2 : decode b_s_madeInAll 2 = .ok (.iconst 0, 1) := by decide +kernel
theorem z_s_madeInAll_3 : decode b_s_madeInAll 3 = .ok (.istore_n 2, 1) := by decide +kernel
theorem z_s_madeInAll_4 : decode b_s_madeInAll 4 = .ok (.iload_n 2, 1) := by decide +kernel
theorem z_s_madeInAll_5 : decode b_s_madeInAll 5 = .ok (.bipush 8, 2) := by decide +kernel
theorem z_s_madeInAll_7 : decode b_s_madeInAll 7 = .ok (.if_icmp .ge 18, 3) := by decide +kernel
theorem z_s_madeInAll_10 : decode b_s_madeInAll 10 = .ok (.iload_n 1, 1) := by decide +kernel
theorem z_s_madeInAll_11 : decode b_s_madeInAll 11 = .ok (.aload_n 0, 1) := by decide +kernel
theorem z_s_madeInAll_12 : decode b_s_madeInAll 12 = .ok (.getfield 9, 3) := by decide +kernel
theorem z_s_madeInAll_15 : decode b_s_madeInAll 15 = .ok (.iload_n 2, 1) := by decide +kernel
theorem z_s_madeInAll_16 : decode b_s_madeInAll 16 = .ok (.iaload, 1) := by decide +kernel
theorem z_s_madeInAll_17 : decode b_s_madeInAll 17 = .ok (.iadd, 1) := by decide +kernel
theorem z_s_madeInAll_18 : decode b_s_madeInAll 18 = .ok (.istore_n 1, 1) := by decide +kernel
theorem z_s_madeInAll_19 : decode b_s_madeInAll 19 = .ok (.iinc 2 1, 3) := by decide +kernel
theorem z_s_madeInAll_22 : decode b_s_madeInAll 22 = .ok (.goto (-18), 3) := by decide +kernel
theorem z_s_madeInAll_25 : decode b_s_madeInAll 25 = .ok (.iload_n 1, 1) := by decide +kernel
theorem z_s_madeInAll_26 : decode b_s_madeInAll 26 = .ok (.ireturn, 1) := by decide +kernel
theorem z_s_openInAll_0 : decode b_s_openInAll 0 = .ok (.iconst 0, 1) := by decide +kernel
theorem z_s_openInAll_1 : decode b_s_openInAll 1 = .ok (.istore_n 1, 1) := by decide +kernel
theorem z_s_openInAll_2 : decode b_s_openInAll 2 = .ok (.iconst 0, 1) := by decide +kernel
theorem z_s_openInAll_3 : decode b_s_openInAll 3 = .ok (.istore_n 2, 1) := by decide +kernel
theorem z_s_openInAll_4 : decode b_s_openInAll 4 = .ok (.iload_n 2, 1) := by decide +kernel
theorem z_s_openInAll_5 : decode b_s_openInAll 5 = .ok (.bipush 8, 2) := by decide +kernel
theorem z_s_openInAll_7 : decode b_s_openInAll 7 = .ok (.if_icmp .ge 17, 3) := by decide +kernel
theorem z_s_openInAll_10 : decode b_s_openInAll 10 = .ok (.iload_n 1, 1) := by decide +kernel
theorem z_s_openInAll_11 : decode b_s_openInAll 11 = .ok (.aload_n 0, 1) := by decide +kernel
theorem z_s_openInAll_12 : decode b_s_openInAll 12 = .ok (.iload_n 2, 1) := by decide +kernel
theorem z_s_openInAll_13 : decode b_s_openInAll 13 = .ok (.invokevirtual 43, 3) := by decide +kernel
theorem z_s_openInAll_16 : decode b_s_openInAll 16 = .ok (.iadd, 1) := by decide +kernel
theorem z_s_openInAll_17 : decode b_s_openInAll 17 = .ok (.istore_n 1, 1) := by decide +kernel
theorem z_s_openInAll_18 : decode b_s_openInAll 18 = .ok (.iinc 2 1, 3) := by decide +kernel
theorem z_s_openInAll_21 : decode b_s_openInAll 21 = .ok (.goto (-17), 3) := by decide +kernel
theorem z_s_openInAll_24 : decode b_s_openInAll 24 = .ok (.iload_n 1, 1) := by decide +kernel
theorem z_s_openInAll_25 : decode b_s_openInAll 25 = .ok (.ireturn, 1) := by decide +kernel
