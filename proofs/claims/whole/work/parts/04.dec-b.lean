theorem z_m_init_0 : decode b_m_init 0 = .ok (.aload_n 0, 1) := by decide +kernel
theorem z_m_init_1 : decode b_m_init 1 = .ok (.invokespecial 1, 3) := by decide +kernel
theorem z_m_init_4 : decode b_m_init 4 = .ok (.aload_n 0, 1) := by decide +kernel
theorem z_m_init_5 : decode b_m_init 5 = .ok (.bipush 8, 2) := by decide +kernel
theorem z_m_init_7 : decode b_m_init 7 = .ok (.newarray .int, 2) := by decide +kernel
theorem z_m_init_9 : decode b_m_init 9 = .ok (.dup, 1) := by decide +kernel
theorem z_m_init_10 : decode b_m_init 10 = .ok (.iconst 0, 1) := by decide +kernel
theorem z_m_init_11 : decode b_m_init 11 = .ok (.iconst (-1), 1) := by decide +kernel
theorem z_m_init_12 : decode b_m_init 12 = .ok (.iastore, 1) := by decide +kernel
theorem z_m_init_13 : decode b_m_init 13 = .ok (.dup, 1) := by decide +kernel
theorem z_m_init_14 : decode b_m_init 14 = .ok (.iconst 1, 1) := by decide +kernel
theorem z_m_init_15 : decode b_m_init 15 = .ok (.iconst (-1), 1) := by decide +kernel
theorem z_m_init_16 : decode b_m_init 16 = .ok (.iastore, 1) := by decide +kernel
theorem z_m_init_17 : decode b_m_init 17 = .ok (.dup, 1) := by decide +kernel
theorem z_m_init_18 : decode b_m_init 18 = .ok (.iconst 2, 1) := by decide +kernel
theorem z_m_init_19 : decode b_m_init 19 = .ok (.iconst (-1), 1) := by decide +kernel
theorem z_m_init_20 : decode b_m_init 20 = .ok (.iastore, 1) := by decide +kernel
theorem z_m_init_21 : decode b_m_init 21 = .ok (.dup, 1) := by decide +kernel
theorem z_m_init_22 : decode b_m_init 22 = .ok (.iconst 3, 1) := by decide +kernel
theorem z_m_init_23 : decode b_m_init 23 = .ok (.iconst (-1), 1) := by decide +kernel
theorem z_m_init_24 : decode b_m_init 24 = .ok (.iastore, 1) := by decide +kernel
theorem z_m_init_25 : decode b_m_init 25 = .ok (.dup, 1) := by decide +kernel
theorem z_m_init_26 : decode b_m_init 26 = .ok (.iconst 4, 1) := by decide +kernel
theorem z_m_init_27 : decode b_m_init 27 = .ok (.iconst (-1), 1) := by decide +kernel
theorem z_m_init_28 : decode b_m_init 28 = .ok (.iastore, 1) := by decide +kernel
theorem z_m_init_29 : decode b_m_init 29 = .ok (.dup, 1) := by decide +kernel
theorem z_m_init_30 : decode b_m_init 30 = .ok (.iconst 5, 1) := by decide +kernel
theorem z_m_init_31 : decode b_m_init 31 = .ok (.iconst (-1), 1) := by decide +kernel
theorem z_m_init_32 : decode b_m_init 32 = .ok (.iastore, 1) := by decide +kernel
theorem z_m_init_33 : decode b_m_init 33 = .ok (.dup, 1) := by decide +kernel
theorem z_m_init_34 : decode b_m_init 34 = .ok (.bipush 6, 2) := by decide +kernel
theorem z_m_init_36 : decode b_m_init 36 = .ok (.iconst (-1), 1) := by decide +kernel
theorem z_m_init_37 : decode b_m_init 37 = .ok (.iastore, 1) := by decide +kernel
theorem z_m_init_38 : decode b_m_init 38 = .ok (.dup, 1) := by decide +kernel
theorem z_m_init_39 : decode b_m_init 39 = .ok (.bipush 7, 2) := by decide +kernel
theorem z_m_init_41 : decode b_m_init 41 = .ok (.iconst (-1), 1) := by decide +kernel
theorem z_m_init_42 : decode b_m_init 42 = .ok (.iastore, 1) := by decide +kernel
theorem z_m_init_43 : decode b_m_init 43 = .ok (.putfield 7, 3) := by decide +kernel
theorem z_m_init_46 : decode b_m_init 46 = .ok (.aload_n 0, 1) := by decide +kernel
theorem z_m_init_47 : decode b_m_init 47 = .ok (.bipush 8, 2) := by decide +kernel
theorem z_m_init_49 : decode b_m_init 49 = .ok (.newarray .int, 2) := by decide +kernel
theorem z_m_init_51 : decode b_m_init 51 = .ok (.putfield 13, 3) := by decide +kernel
theorem z_m_init_54 : decode b_m_init 54 = .ok (.aload_n 0, 1) := by decide +kernel
theorem z_m_init_55 : decode b_m_init 55 = .ok (.sipush 240, 3) := by decide +kernel
theorem z_m_init_58 : decode b_m_init 58 = .ok (.newarray .int, 2) := by decide +kernel
theorem z_m_init_60 : decode b_m_init 60 = .ok (.putfield 16, 3) := by decide +kernel
theorem z_m_init_63 : decode b_m_init 63 = .ok (.aload_n 0, 1) := by decide +kernel
theorem z_m_init_64 : decode b_m_init 64 = .ok (.sipush 240, 3) := by decide +kernel
theorem z_m_init_67 : decode b_m_init 67 = .ok (.newarray .boolean, 2) := by decide +kernel
theorem z_m_init_69 : decode b_m_init 69 = .ok (.putfield 19, 3) := by decide +kernel
theorem z_m_init_72 : decode b_m_init 72 = .ok (.aload_n 0, 1) := by decide +kernel
theorem z_m_init_73 : decode b_m_init 73 = .ok (.sipush 240, 3) := by decide +kernel
theorem z_m_init_76 : decode b_m_init 76 = .ok (.newarray .long, 2) := by decide +kernel
theorem z_m_init_78 : decode b_m_init 78 = .ok (.putfield 23, 3) := by decide +kernel
theorem z_m_init_81 : decode b_m_init 81 = .ok (.aload_n 0, 1) := by decide +kernel
theorem z_m_init_82 : decode b_m_init 82 = .ok (.sipush 240, 3) := by decide +kernel
theorem z_m_init_85 : decode b_m_init 85 = .ok (.newarray .int, 2) := by decide +kernel
theorem z_m_init_87 : decode b_m_init 87 = .ok (.putfield 27, 3) := by decide +kernel
theorem z_m_init_90 : decode b_m_init 90 = .ok (.aload_n 0, 1) := by decide +kernel
theorem z_m_init_91 : decode b_m_init 91 = .ok (.sipush 3840, 3) := by decide +kernel
theorem z_m_init_94 : decode b_m_init 94 = .ok (.newarray .int, 2) := by decide +kernel
theorem z_m_init_96 : decode b_m_init 96 = .ok (.putfield 30, 3) := by decide +kernel
theorem z_m_init_99 : decode b_m_init 99 = .ok (.aload_n 0, 1) := by decide +kernel
theorem z_m_init_100 : decode b_m_init 100 = .ok (.bipush 64, 2) := by decide +kernel
theorem z_m_init_102 : decode b_m_init 102 = .ok (.newarray .int, 2) := by decide +kernel
theorem z_m_init_104 : decode b_m_init 104 = .ok (.putfield 33, 3) := by decide +kernel
theorem z_m_init_107 : decode b_m_init 107 = .ok (.aload_n 0, 1) := by decide +kernel
theorem z_m_init_108 : decode b_m_init 108 = .ok (.bipush 64, 2) := by decide +kernel
theorem z_m_init_110 : decode b_m_init 110 = .ok (.newarray .int, 2) := by decide +kernel
theorem z_m_init_112 : decode b_m_init 112 = .ok (.putfield 36, 3) := by decide +kernel
theorem z_m_init_115 : decode b_m_init 115 = .ok (.aload_n 0, 1) := by decide +kernel
theorem z_m_init_116 : decode b_m_init 116 = .ok (.bipush 64, 2) := by decide +kernel
theorem z_m_init_118 : decode b_m_init 118 = .ok (.newarray .int, 2) := by decide +kernel
theorem z_m_init_120 : decode b_m_init 120 = .ok (.putfield 39, 3) := by decide +kernel
theorem z_m_init_123 : decode b_m_init 123 = .ok (.aload_n 0, 1) := by decide +kernel
theorem z_m_init_124 : decode b_m_init 124 = .ok (.sipush 400, 3) := by decide +kernel
theorem z_m_init_127 : decode b_m_init 127 = .ok (.newarray .int, 2) := by decide +kernel
theorem z_m_init_129 : decode b_m_init 129 = .ok (.putfield 42, 3) := by decide +kernel
theorem z_m_init_132 : decode b_m_init 132 = .ok (.return_, 1) := by decide +kernel
theorem z_m_thrown_0 : decode b_m_thrown 0 = .ok (.aload_n 0, 1) := by decide +kernel
theorem z_m_thrown_1 : decode b_m_thrown 1 = .ok (.getfield 45, 3) := by decide +kernel
theorem z_m_thrown_4 : decode b_m_thrown 4 = .ok (.ireturn, 1) := by decide +kernel
theorem z_m_under_0 : decode b_m_under 0 = .ok (.iload_n 1, 1) := by decide +kernel
theorem z_m_under_1 : decode b_m_under 1 = .ok (.invokestatic 53, 3) := by decide +kernel
theorem z_m_under_4 : decode b_m_under 4 = .ok (.ifCond .eq 13, 3) := by decide +kernel
theorem z_m_under_7 : decode b_m_under 7 = .ok (.iload_n 2, 1) := by decide +kernel
theorem z_m_under_8 : decode b_m_under 8 = .ok (.iconst (-1), 1) := by decide +kernel
theorem z_m_under_9 : decode b_m_under 9 = .ok (.bipush 7, 2) := by decide +kernel
theorem z_m_under_11 : decode b_m_under 11 = .ok (.invokestatic 49, 3) := by decide +kernel
theorem z_m_under_14 : decode b_m_under 14 = .ok (.ifCond .ne 7, 3) := by decide +kernel
theorem z_m_under_17 : decode b_m_under 17 = .ok (.iconst 1, 1) := by decide +kernel
theorem z_m_under_18 : decode b_m_under 18 = .ok (.goto 4, 3) := by decide +kernel
theorem z_m_under_21 : decode b_m_under 21 = .ok (.iconst 0, 1) := by decide +kernel
theorem z_m_under_22 : decode b_m_under 22 = .ok (.istore_n 3, 1) := by decide +kernel
theorem z_m_under_23 : decode b_m_under 23 = .ok (.aload_n 0, 1) := by decide +kernel
theorem z_m_under_24 : decode b_m_under 24 = .ok (.iload_n 3, 1) := by decide +kernel
theorem z_m_under_25 : decode b_m_under 25 = .ok (.iload_n 3, 1) := by decide +kernel
theorem z_m_under_26 : decode b_m_under 26 = .ok (.ifCond .ne 29, 3) := by decide +kernel
theorem z_m_under_29 : decode b_m_under 29 = .ok (.aload_n 0, 1) := by decide +kernel
theorem z_m_under_30 : decode b_m_under 30 = .ok (.getfield 13, 3) := by decide +kernel
theorem z_m_under_33 : decode b_m_under 33 = .ok (.iload_n 1, 1) := by decide +kernel
theorem z_m_under_34 : decode b_m_under 34 = .ok (.iaload, 1) := by decide +kernel
theorem z_m_under_35 : decode b_m_under 35 = .ok (.ifCond .gt 16, 3) := by decide +kernel
theorem z_m_under_38 : decode b_m_under 38 = .ok (.iload_n 2, 1) := by decide +kernel
theorem z_m_under_39 : decode b_m_under 39 = .ok (.ifCond .lt 16, 3) := by decide +kernel
theorem z_m_under_42 : decode b_m_under 42 = .ok (.aload_n 0, 1) := by decide +kernel
theorem z_m_under_43 : decode b_m_under 43 = .ok (.iload_n 2, 1) := by decide +kernel
theorem z_m_under_44 : decode b_m_under 44 = .ok (.iload_n 1, 1) := by decide +kernel
theorem z_m_under_45 : decode b_m_under 45 = .ok (.invokevirtual 57, 3) := by decide +kernel
theorem z_m_under_48 : decode b_m_under 48 = .ok (.ifCond .eq 7, 3) := by decide +kernel
theorem z_m_under_51 : decode b_m_under 51 = .ok (.iconst 1, 1) := by decide +kernel
theorem z_m_under_52 : decode b_m_under 52 = .ok (.goto 4, 3) := by decide +kernel
theorem z_m_under_55 : decode b_m_under 55 = .ok (.iconst 0, 1) := by decide +kernel
theorem z_m_under_56 : decode b_m_under 56 = .ok (.iconst 0, 1) := by decide +kernel
theorem z_m_under_57 : decode b_m_under 57 = .ok (.iconst 0, 1) := by decide +kernel
theorem z_m_under_58 : decode b_m_under 58 = .ok (.invokevirtual 61, 3) := by decide +kernel
theorem z_m_under_61 : decode b_m_under 61 = .ok (.ifCond .eq 4, 3) := by decide +kernel
theorem z_m_under_64 : decode b_m_under 64 = .ok (.return_, 1) := by decide +kernel
theorem z_m_under_65 : decode b_m_under 65 = .ok (.aload_n 0, 1) := by decide +kernel
theorem z_m_under_66 : decode b_m_under 66 = .ok (.getfield 7, 3) := by decide +kernel
theorem z_m_under_69 : decode b_m_under 69 = .ok (.iload_n 1, 1) := by decide +kernel
theorem z_m_under_70 : decode b_m_under 70 = .ok (.iload_n 2, 1) := by decide +kernel
theorem z_m_under_71 : decode b_m_under 71 = .ok (.iastore, 1) := by decide +kernel
theorem z_m_under_72 : decode b_m_under 72 = .ok (.return_, 1) := by decide +kernel
theorem z_m_isKind_0 : decode b_m_isKind 0 = .ok (.iload_n 0, 1) := by decide +kernel
theorem z_m_isKind_1 : decode b_m_isKind 1 = .ok (.iconst 0, 1) := by decide +kernel
theorem z_m_isKind_2 : decode b_m_isKind 2 = .ok (.bipush 7, 2) := by decide +kernel
theorem z_m_isKind_4 : decode b_m_isKind 4 = .ok (.invokestatic 49, 3) := by decide +kernel
theorem z_m_isKind_7 : decode b_m_isKind 7 = .ok (.ireturn, 1) := by decide +kernel
theorem z_m_in_0 : decode b_m_in 0 = .ok (.iload_n 0, 1) := by decide +kernel
theorem z_m_in_1 : decode b_m_in 1 = .ok (.iload_n 1, 1) := by decide +kernel
theorem z_m_in_2 : decode b_m_in 2 = .ok (.if_icmp .lt 12, 3) := by decide +kernel
theorem z_m_in_5 : decode b_m_in 5 = .ok (.iload_n 0, 1) := by decide +kernel
theorem z_m_in_6 : decode b_m_in 6 = .ok (.iload_n 2, 1) := by decide +kernel
theorem z_m_in_7 : decode b_m_in 7 = .ok (.if_icmp .gt 7, 3) := by decide +kernel
theorem z_m_in_10 : decode b_m_in 10 = .ok (.iconst 1, 1) := by decide +kernel
theorem z_m_in_11 : decode b_m_in 11 = .ok (.goto 4, 3) := by decide +kernel
theorem z_m_in_14 : decode b_m_in 14 = .ok (.iconst 0, 1) := by decide +kernel
theorem z_m_in_15 : decode b_m_in 15 = .ok (.ireturn, 1) := by decide +kernel
theorem z_m_reaches_0 : decode b_m_reaches 0 = .ok (.iload_n 1, 1) := by decide +kernel
theorem z_m_reaches_1 : decode b_m_reaches 1 = .ok (.istore_n 3, 1) := by decide +kernel
theorem z_m_reaches_2 : decode b_m_reaches 2 = .ok (.iload_n 3, 1) := by decide +kernel
theorem z_m_reaches_3 : decode b_m_reaches 3 = .ok (.ifCond .lt 18, 3) := by decide +kernel
theorem z_m_reaches_6 : decode b_m_reaches 6 = .ok (.iload_n 3, 1) := by decide +kernel
theorem z_m_reaches_7 : decode b_m_reaches 7 = .ok (.iload_n 2, 1) := by decide +kernel
theorem z_m_reaches_8 : decode b_m_reaches 8 = .ok (.if_icmp .eq 13, 3) := by decide +kernel
theorem z_m_reaches_11 : decode b_m_reaches 11 = .ok (.aload_n 0, 1) := by decide +kernel
theorem z_m_reaches_12 : decode b_m_reaches 12 = .ok (.getfield 7, 3) := by decide +kernel
theorem z_m_reaches_15 : decode b_m_reaches 15 = .ok (.iload_n 3, 1) := by decide +kernel
theorem z_m_reaches_16 : decode b_m_reaches 16 = .ok (.iaload, 1) := by decide +kernel
theorem z_m_reaches_17 : decode b_m_reaches 17 = .ok (.istore_n 3, 1) := by decide +kernel
theorem z_m_reaches_18 : decode b_m_reaches 18 = .ok (.goto (-16), 3) := by decide +kernel
theorem z_m_reaches_21 : decode b_m_reaches 21 = .ok (.iload_n 3, 1) := by decide +kernel
theorem z_m_reaches_22 : decode b_m_reaches 22 = .ok (.iload_n 2, 1) := by decide +kernel
theorem z_m_reaches_23 : decode b_m_reaches 23 = .ok (.if_icmp .ne 7, 3) := by decide +kernel
theorem z_m_reaches_26 : decode b_m_reaches 26 = .ok (.iconst 1, 1) := by decide +kernel
theorem z_m_reaches_27 : decode b_m_reaches 27 = .ok (.goto 4, 3) := by decide +kernel
theorem z_m_reaches_30 : decode b_m_reaches 30 = .ok (.iconst 0, 1) := by decide +kernel
theorem z_m_reaches_31 : decode b_m_reaches 31 = .ok (.ireturn, 1) := by decide +kernel
theorem z_m_throwing_0 : decode b_m_throwing 0 = .ok (.aload_n 0, 1) := by decide +kernel
theorem z_m_throwing_1 : decode b_m_throwing 1 = .ok (.iload_n 1, 1) := by decide +kernel
theorem z_m_throwing_2 : decode b_m_throwing 2 = .ok (.ifCond .eq 7, 3) := by decide +kernel
theorem z_m_throwing_5 : decode b_m_throwing 5 = .ok (.iconst 1, 1) := by decide +kernel
theorem z_m_throwing_6 : decode b_m_throwing 6 = .ok (.goto 29, 3) := by decide +kernel
theorem z_m_throwing_9 : decode b_m_throwing 9 = .ok (.iload_n 2, 1) := by decide +kernel
theorem z_m_throwing_10 : decode b_m_throwing 10 = .ok (.ifCond .eq 7, 3) := by decide +kernel
theorem z_m_throwing_13 : decode b_m_throwing 13 = .ok (.iconst 2, 1) := by decide +kernel
theorem z_m_throwing_14 : decode b_m_throwing 14 = .ok (.goto 21, 3) := by decide +kernel
theorem z_m_throwing_17 : decode b_m_throwing 17 = .ok (.iload_n 3, 1) := by decide +kernel
theorem z_m_throwing_18 : decode b_m_throwing 18 = .ok (.ifCond .eq 7, 3) := by decide +kernel
theorem z_m_throwing_21 : decode b_m_throwing 21 = .ok (.iconst 3, 1) := by decide +kernel
theorem z_m_throwing_22 : decode b_m_throwing 22 = .ok (.goto 13, 3) := by decide +kernel
theorem z_m_throwing_25 : decode b_m_throwing 25 = .ok (.iload 4, 2) := by decide +kernel
theorem z_m_throwing_27 : decode b_m_throwing 27 = .ok (.ifCond .eq 7, 3) := by decide +kernel
theorem z_m_throwing_30 : decode b_m_throwing 30 = .ok (.iconst 4, 1) := by decide +kernel
theorem z_m_throwing_31 : decode b_m_throwing 31 = .ok (.goto 4, 3) := by decide +kernel
theorem z_m_throwing_34 : decode b_m_throwing 34 = .ok (.iconst 0, 1) := by decide +kernel
theorem z_m_throwing_35 : decode b_m_throwing 35 = .ok (.putfield 45, 3) := by decide +kernel
theorem z_m_throwing_38 : decode b_m_throwing 38 = .ok (.aload_n 0, 1) := by decide +kernel
theorem z_m_throwing_39 : decode b_m_throwing 39 = .ok (.getfield 45, 3) := by decide +kernel
theorem z_m_throwing_42 : decode b_m_throwing 42 = .ok (.ifCond .le 7, 3) := by decide +kernel
theorem z_m_throwing_45 : decode b_m_throwing 45 = .ok (.iconst 1, 1) := by decide +kernel
theorem z_m_throwing_46 : decode b_m_throwing 46 = .ok (.goto 4, 3) := by decide +kernel
theorem z_m_throwing_49 : decode b_m_throwing 49 = .ok (.iconst 0, 1) := by decide +kernel
theorem z_m_throwing_50 : decode b_m_throwing 50 = .ok (.ireturn, 1) := by decide +kernel
theorem z_m_make_0 : decode b_m_make 0 = .ok (.iload_n 1, 1) := by decide +kernel
theorem z_m_make_1 : decode b_m_make 1 = .ok (.invokestatic 53, 3) := by decide +kernel
theorem z_m_make_4 : decode b_m_make 4 = .ok (.ifCond .ne 7, 3) := by decide +kernel
theorem z_m_make_7 : decode b_m_make 7 = .ok (.iconst 1, 1) := by decide +kernel
theorem z_m_make_8 : decode b_m_make 8 = .ok (.goto 4, 3) := by decide +kernel
theorem z_m_make_11 : decode b_m_make 11 = .ok (.iconst 0, 1) := by decide +kernel
theorem z_m_make_12 : decode b_m_make 12 = .ok (.istore_n 3, 1) := by decide +kernel
theorem z_m_make_13 : decode b_m_make 13 = .ok (.iload_n 3, 1) := by decide +kernel
theorem z_m_make_14 : decode b_m_make 14 = .ok (.ifCond .ne 16, 3) := by decide +kernel
theorem z_m_make_17 : decode b_m_make 17 = .ok (.aload_n 0, 1) := by decide +kernel
theorem z_m_make_18 : decode b_m_make 18 = .ok (.getfield 7, 3) := by decide +kernel
theorem z_m_make_21 : decode b_m_make 21 = .ok (.iload_n 1, 1) := by decide +kernel
theorem z_m_make_22 : decode b_m_make 22 = .ok (.iaload, 1) := by decide +kernel
theorem z_m_make_23 : decode b_m_make 23 = .ok (.ifCond .lt 7, 3) := by decide +kernel
theorem z_m_make_26 : decode b_m_make 26 = .ok (.iconst 1, 1) := by decide +kernel
theorem z_m_make_27 : decode b_m_make 27 = .ok (.goto 4, 3) := by decide +kernel
theorem z_m_make_30 : decode b_m_make 30 = .ok (.iconst 0, 1) := by decide +kernel
theorem z_m_make_31 : decode b_m_make 31 = .ok (.istore 4, 2) := by decide +kernel
theorem z_m_make_33 : decode b_m_make 33 = .ok (.iload_n 3, 1) := by decide +kernel
theorem z_m_make_34 : decode b_m_make 34 = .ok (.ifCond .ne 30, 3) := by decide +kernel
theorem z_m_make_37 : decode b_m_make 37 = .ok (.iload 4, 2) := by decide +kernel
theorem z_m_make_39 : decode b_m_make 39 = .ok (.ifCond .eq 20, 3) := by decide +kernel
theorem z_m_make_42 : decode b_m_make 42 = .ok (.aload_n 0, 1) := by decide +kernel
theorem z_m_make_43 : decode b_m_make 43 = .ok (.aload_n 0, 1) := by decide +kernel
theorem z_m_make_44 : decode b_m_make 44 = .ok (.getfield 7, 3) := by decide +kernel
theorem z_m_make_47 : decode b_m_make 47 = .ok (.iload_n 1, 1) := by decide +kernel
theorem z_m_make_48 : decode b_m_make 48 = .ok (.iaload, 1) := by decide +kernel
theorem z_m_make_49 : decode b_m_make 49 = .ok (.iload_n 2, 1) := by decide +kernel
theorem z_m_make_50 : decode b_m_make 50 = .ok (.invokevirtual 65, 3) := by decide +kernel
theorem z_m_make_53 : decode b_m_make 53 = .ok (.ifCond .ne 15, 3) := by decide +kernel
theorem z_m_make_56 : decode b_m_make 56 = .ok (.goto 8, 3) := by decide +kernel
theorem z_m_make_59 : decode b_m_make 59 = .ok (.iload_n 2, 1) := by decide +kernel
theorem z_m_make_60 : decode b_m_make 60 = .ok (.iconst (-1), 1) := by decide +kernel
theorem z_m_make_61 : decode b_m_make 61 = .ok (.if_icmp .eq 7, 3) := by decide +kernel
theorem z_m_make_64 : decode b_m_make 64 = .ok (.iconst 1, 1) := by decide +kernel
theorem z_m_make_65 : decode b_m_make 65 = .ok (.goto 4, 3) := by decide +kernel
theorem z_m_make_68 : decode b_m_make 68 = .ok (.iconst 0, 1) := by decide +kernel
theorem z_m_make_69 : decode b_m_make 69 = .ok (.istore_n 3, 1) := by decide +kernel
theorem z_m_make_70 : decode b_m_make 70 = .ok (.aload_n 0, 1) := by decide +kernel
theorem z_m_make_71 : decode b_m_make 71 = .ok (.iload_n 3, 1) := by decide +kernel
theorem z_m_make_72 : decode b_m_make 72 = .ok (.iload_n 3, 1) := by decide +kernel
theorem z_m_make_73 : decode b_m_make 73 = .ok (.ifCond .ne 31, 3) := by decide +kernel
theorem z_m_make_76 : decode b_m_make 76 = .ok (.iload 4, 2) := by decide +kernel
theorem z_m_make_78 : decode b_m_make 78 = .ok (.ifCond .eq 26, 3) := by decide +kernel
theorem z_m_make_81 : decode b_m_make 81 = .ok (.aload_n 0, 1) := by decide +kernel
theorem z_m_make_82 : decode b_m_make 82 = .ok (.getfield 19, 3) := by decide +kernel
theorem z_m_make_85 : decode b_m_make 85 = .ok (.bipush 30, 2) := by decide +kernel
theorem z_m_make_87 : decode b_m_make 87 = .ok (.aload_n 0, 1) := by decide +kernel
theorem z_m_make_88 : decode b_m_make 88 = .ok (.getfield 7, 3) := by decide +kernel
theorem z_m_make_91 : decode b_m_make 91 = .ok (.iload_n 1, 1) := by decide +kernel
theorem z_m_make_92 : decode b_m_make 92 = .ok (.iaload, 1) := by decide +kernel
theorem z_m_make_93 : decode b_m_make 93 = .ok (.imul, 1) := by decide +kernel
theorem z_m_make_94 : decode b_m_make 94 = .ok (.iload_n 2, 1) := by decide +kernel
theorem z_m_make_95 : decode b_m_make 95 = .ok (.iadd, 1) := by decide +kernel
theorem z_m_make_96 : decode b_m_make 96 = .ok (.baload, 1) := by decide +kernel
theorem z_m_make_97 : decode b_m_make 97 = .ok (.ifCond .ne 7, 3) := by decide +kernel
theorem z_m_make_100 : decode b_m_make 100 = .ok (.iconst 1, 1) := by decide +kernel
theorem z_m_make_101 : decode b_m_make 101 = .ok (.goto 4, 3) := by decide +kernel
theorem z_m_make_104 : decode b_m_make 104 = .ok (.iconst 0, 1) := by decide +kernel
theorem z_m_make_105 : decode b_m_make 105 = .ok (.iload_n 3, 1) := by decide +kernel
theorem z_m_make_106 : decode b_m_make 106 = .ok (.ifCond .ne 18, 3) := by decide +kernel
theorem z_m_make_109 : decode b_m_make 109 = .ok (.aload_n 0, 1) := by decide +kernel
theorem z_m_make_110 : decode b_m_make 110 = .ok (.getfield 13, 3) := by decide +kernel
theorem z_m_make_113 : decode b_m_make 113 = .ok (.iload_n 1, 1) := by decide +kernel
theorem z_m_make_114 : decode b_m_make 114 = .ok (.iaload, 1) := by decide +kernel
theorem z_m_make_115 : decode b_m_make 115 = .ok (.bipush 30, 2) := by decide +kernel
theorem z_m_make_117 : decode b_m_make 117 = .ok (.if_icmp .ne 7, 3) := by decide +kernel
theorem z_m_make_120 : decode b_m_make 120 = .ok (.iconst 1, 1) := by decide +kernel
theorem z_m_make_121 : decode b_m_make 121 = .ok (.goto 4, 3) := by decide +kernel
theorem z_m_make_124 : decode b_m_make 124 = .ok (.iconst 0, 1) := by decide +kernel
theorem z_m_make_125 : decode b_m_make 125 = .ok (.iconst 0, 1) := by decide +kernel
theorem z_m_make_126 : decode b_m_make 126 = .ok (.invokevirtual 61, 3) := by decide +kernel
theorem z_m_make_129 : decode b_m_make 129 = .ok (.ifCond .eq 5, 3) := by decide +kernel
theorem z_m_make_132 : decode b_m_make 132 = .ok (.iconst 0, 1) := by decide +kernel
theorem z_m_make_133 : decode b_m_make 133 = .ok (.ireturn, 1) := by decide +kernel
theorem z_m_make_134 : decode b_m_make 134 = .ok (.bipush 30, 2) := by decide +kernel
theorem z_m_make_136 : decode b_m_make 136 = .ok (.iload_n 1, 1) := by decide +kernel
theorem z_m_make_137 : decode b_m_make 137 = .ok (.imul, 1) := by decide +kernel
theorem z_m_make_138 : decode b_m_make 138 = .ok (.aload_n 0, 1) := by decide +kernel
theorem z_m_make_139 : decode b_m_make 139 = .ok (.getfield 13, 3) := by decide +kernel
theorem z_m_make_142 : decode b_m_make 142 = .ok (.iload_n 1, 1) := by decide +kernel
theorem z_m_make_143 : decode b_m_make 143 = .ok (.iaload, 1) := by decide +kernel
theorem z_m_make_144 : decode b_m_make 144 = .ok (.iadd, 1) := by decide +kernel
theorem z_m_make_145 : decode b_m_make 145 = .ok (.istore 5, 2) := by decide +kernel
theorem z_m_make_147 : decode b_m_make 147 = .ok (.aload_n 0, 1) := by decide +kernel
theorem z_m_make_148 : decode b_m_make 148 = .ok (.getfield 16, 3) := by decide +kernel
theorem z_m_make_151 : decode b_m_make 151 = .ok (.iload 5, 2) := by decide +kernel
theorem z_m_make_153 : decode b_m_make 153 = .ok (.iload_n 2, 1) := by decide +kernel
theorem z_m_make_154 : decode b_m_make 154 = .ok (.iastore, 1) := by decide +kernel
theorem z_m_make_155 : decode b_m_make 155 = .ok (.aload_n 0, 1) := by decide +kernel
theorem z_m_make_156 : decode b_m_make 156 = .ok (.getfield 19, 3) := by decide +kernel
theorem z_m_make_159 : decode b_m_make 159 = .ok (.iload 5, 2) := by decide +kernel
theorem z_m_make_161 : decode b_m_make 161 = .ok (.iconst 1, 1) := by decide +kernel
theorem z_m_make_162 : decode b_m_make 162 = .ok (.bastore, 1) := by decide +kernel
theorem z_m_make_163 : decode b_m_make 163 = .ok (.aload_n 0, 1) := by decide +kernel
theorem z_m_make_164 : decode b_m_make 164 = .ok (.getfield 13, 3) := by decide +kernel
theorem z_m_make_167 : decode b_m_make 167 = .ok (.iload_n 1, 1) := by decide +kernel
theorem z_m_make_168 : decode b_m_make 168 = .ok (.dup2, 1) := by decide +kernel
theorem z_m_make_169 : decode b_m_make 169 = .ok (.iaload, 1) := by decide +kernel
theorem z_m_make_170 : decode b_m_make 170 = .ok (.iconst 1, 1) := by decide +kernel
theorem z_m_make_171 : decode b_m_make 171 = .ok (.iadd, 1) := by decide +kernel
theorem z_m_make_172 : decode b_m_make 172 = .ok (.iastore, 1) := by decide +kernel
theorem z_m_make_173 : decode b_m_make 173 = .ok (.aload_n 0, 1) := by decide +kernel
theorem z_m_make_174 : decode b_m_make 174 = .ok (.getfield 13, 3) := by decide +kernel
theorem z_m_make_177 : decode b_m_make 177 = .ok (.iload_n 1, 1) := by decide +kernel
theorem z_m_make_178 : decode b_m_make 178 = .ok (.iaload, 1) := by decide +kernel
theorem z_m_make_179 : decode b_m_make 179 = .ok (.iconst 1, 1) := by decide +kernel
theorem z_m_make_180 : decode b_m_make 180 = .ok (.isub, 1) := by decide +kernel
theorem z_m_make_181 : decode b_m_make 181 = .ok (.ireturn, 1) := by decide +kernel
theorem z_m_isSubject_0 : decode b_m_isSubject 0 = .ok (.iload_n 1, 1) := by decide +kernel
theorem z_m_isSubject_1 : decode b_m_isSubject 1 = .ok (.invokestatic 53, 3) := by decide +kernel
theorem z_m_isSubject_4 : decode b_m_isSubject 4 = .ok (.ifCond .eq 23, 3) := by decide +kernel
theorem z_m_isSubject_7 : decode b_m_isSubject 7 = .ok (.iload_n 2, 1) := by decide +kernel
theorem z_m_isSubject_8 : decode b_m_isSubject 8 = .ok (.iconst 0, 1) := by decide +kernel
theorem z_m_isSubject_9 : decode b_m_isSubject 9 = .ok (.aload_n 0, 1) := by decide +kernel
theorem z_m_isSubject_10 : decode b_m_isSubject 10 = .ok (.getfield 13, 3) := by decide +kernel
theorem z_m_isSubject_13 : decode b_m_isSubject 13 = .ok (.iload_n 1, 1) := by decide +kernel
theorem z_m_isSubject_14 : decode b_m_isSubject 14 = .ok (.iaload, 1) := by decide +kernel
theorem z_m_isSubject_15 : decode b_m_isSubject 15 = .ok (.iconst 1, 1) := by decide +kernel
theorem z_m_isSubject_16 : decode b_m_isSubject 16 = .ok (.isub, 1) := by decide +kernel
theorem z_m_isSubject_17 : decode b_m_isSubject 17 = .ok (.invokestatic 49, 3) := by decide +kernel
theorem z_m_isSubject_20 : decode b_m_isSubject 20 = .ok (.ifCond .eq 7, 3) := by decide +kernel
theorem z_m_isSubject_23 : decode b_m_isSubject 23 = .ok (.iconst 1, 1) := by decide +kernel
theorem z_m_isSubject_24 : decode b_m_isSubject 24 = .ok (.goto 4, 3) := by decide +kernel
theorem z_m_isSubject_27 : decode b_m_isSubject 27 = .ok (.iconst 0, 1) := by decide +kernel
theorem z_m_isSubject_28 : decode b_m_isSubject 28 = .ok (.ireturn, 1) := by decide +kernel
theorem z_m_verb_0 : decode b_m_verb 0 = .ok (.iload_n 1, 1) := by decide +kernel
theorem z_m_verb_1 : decode b_m_verb 1 = .ok (.invokestatic 53, 3) := by decide +kernel
theorem z_m_verb_4 : decode b_m_verb 4 = .ok (.ifCond .eq 23, 3) := by decide +kernel
theorem z_m_verb_7 : decode b_m_verb 7 = .ok (.iload_n 2, 1) := by decide +kernel
theorem z_m_verb_8 : decode b_m_verb 8 = .ok (.iconst 0, 1) := by decide +kernel
theorem z_m_verb_9 : decode b_m_verb 9 = .ok (.bipush 7, 2) := by decide +kernel
theorem z_m_verb_11 : decode b_m_verb 11 = .ok (.invokestatic 49, 3) := by decide +kernel
theorem z_m_verb_14 : decode b_m_verb 14 = .ok (.ifCond .eq 13, 3) := by decide +kernel
theorem z_m_verb_17 : decode b_m_verb 17 = .ok (.iload_n 3, 1) := by decide +kernel
theorem z_m_verb_18 : decode b_m_verb 18 = .ok (.iconst 0, 1) := by decide +kernel
theorem z_m_verb_19 : decode b_m_verb 19 = .ok (.bipush 7, 2) := by decide +kernel
theorem z_m_verb_21 : decode b_m_verb 21 = .ok (.invokestatic 49, 3) := by decide +kernel
theorem z_m_verb_24 : decode b_m_verb 24 = .ok (.ifCond .ne 7, 3) := by decide +kernel
theorem z_m_verb_27 : decode b_m_verb 27 = .ok (.iconst 1, 1) := by decide +kernel
theorem z_m_verb_28 : decode b_m_verb 28 = .ok (.goto 4, 3) := by decide +kernel
theorem z_m_verb_31 : decode b_m_verb 31 = .ok (.iconst 0, 1) := by decide +kernel
theorem z_m_verb_32 : decode b_m_verb 32 = .ok (.istore 6, 2) := by decide +kernel
theorem z_m_verb_34 : decode b_m_verb 34 = .ok (.aload_n 0, 1) := by decide +kernel
theorem z_m_verb_35 : decode b_m_verb 35 = .ok (.iload 6, 2) := by decide +kernel
theorem z_m_verb_37 : decode b_m_verb 37 = .ok (.iload 4, 2) := by decide +kernel
theorem z_m_verb_39 : decode b_m_verb 39 = .ok (.sipush (-1000), 3) := by decide +kernel
theorem z_m_verb_42 : decode b_m_verb 42 = .ok (.sipush 1000, 3) := by decide +kernel
theorem z_m_verb_45 : decode b_m_verb 45 = .ok (.invokestatic 49, 3) := by decide +kernel
theorem z_m_verb_48 : decode b_m_verb 48 = .ok (.ifCond .eq 17, 3) := by decide +kernel
theorem z_m_verb_51 : decode b_m_verb 51 = .ok (.iload 5, 2) := by decide +kernel
theorem z_m_verb_53 : decode b_m_verb 53 = .ok (.sipush (-1000), 3) := by decide +kernel
theorem z_m_verb_56 : decode b_m_verb 56 = .ok (.sipush 1000, 3) := by decide +kernel
theorem z_m_verb_59 : decode b_m_verb 59 = .ok (.invokestatic 49, 3) := by decide +kernel
theorem z_m_verb_62 : decode b_m_verb 62 = .ok (.ifCond .ne 7, 3) := by decide +kernel
theorem z_m_verb_65 : decode b_m_verb 65 = .ok (.iconst 1, 1) := by decide +kernel
theorem z_m_verb_66 : decode b_m_verb 66 = .ok (.goto 4, 3) := by decide +kernel
theorem z_m_verb_69 : decode b_m_verb 69 = .ok (.iconst 0, 1) := by decide +kernel
theorem z_m_verb_70 : decode b_m_verb 70 = .ok (.iconst 0, 1) := by decide +kernel
theorem z_m_verb_71 : decode b_m_verb 71 = .ok (.iconst 0, 1) := by decide +kernel
theorem z_m_verb_72 : decode b_m_verb 72 = .ok (.invokevirtual 61, 3) := by decide +kernel
theorem z_m_verb_75 : decode b_m_verb 75 = .ok (.ifCond .eq 4, 3) := by decide +kernel
theorem z_m_verb_78 : decode b_m_verb 78 = .ok (.return_, 1) := by decide +kernel
theorem z_m_verb_79 : decode b_m_verb 79 = .ok (.aload_n 0, 1) := by decide +kernel
theorem z_m_verb_80 : decode b_m_verb 80 = .ok (.getfield 33, 3) := by decide +kernel
theorem z_m_verb_83 : decode b_m_verb 83 = .ok (.bipush 8, 2) := by decide +kernel
theorem z_m_verb_85 : decode b_m_verb 85 = .ok (.iload_n 1, 1) := by decide +kernel
theorem z_m_verb_86 : decode b_m_verb 86 = .ok (.imul, 1) := by decide +kernel
theorem z_m_verb_87 : decode b_m_verb 87 = .ok (.iload_n 2, 1) := by decide +kernel
theorem z_m_verb_88 : decode b_m_verb 88 = .ok (.iadd, 1) := by decide +kernel
theorem z_m_verb_89 : decode b_m_verb 89 = .ok (.iload_n 3, 1) := by decide +kernel
theorem z_m_verb_90 : decode b_m_verb 90 = .ok (.iastore, 1) := by decide +kernel
theorem z_m_verb_91 : decode b_m_verb 91 = .ok (.aload_n 0, 1) := by decide +kernel
theorem z_m_verb_92 : decode b_m_verb 92 = .ok (.getfield 36, 3) := by decide +kernel
theorem z_m_verb_95 : decode b_m_verb 95 = .ok (.bipush 8, 2) := by decide +kernel
theorem z_m_verb_97 : decode b_m_verb 97 = .ok (.iload_n 1, 1) := by decide +kernel
theorem z_m_verb_98 : decode b_m_verb 98 = .ok (.imul, 1) := by decide +kernel
theorem z_m_verb_99 : decode b_m_verb 99 = .ok (.iload_n 2, 1) := by decide +kernel
theorem z_m_verb_100 : decode b_m_verb 100 = .ok (.iadd, 1) := by decide +kernel
theorem z_m_verb_101 : decode b_m_verb 101 = .ok (.iload 4, 2) := by decide +kernel
theorem z_m_verb_103 : decode b_m_verb 103 = .ok (.iastore, 1) := by decide +kernel
theorem z_m_verb_104 : decode b_m_verb 104 = .ok (.aload_n 0, 1) := by decide +kernel
theorem z_m_verb_105 : decode b_m_verb 105 = .ok (.getfield 39, 3) := by decide +kernel
theorem z_m_verb_108 : decode b_m_verb 108 = .ok (.bipush 8, 2) := by decide +kernel
theorem z_m_verb_110 : decode b_m_verb 110 = .ok (.iload_n 1, 1) := by decide +kernel
theorem z_m_verb_111 : decode b_m_verb 111 = .ok (.imul, 1) := by decide +kernel
theorem z_m_verb_112 : decode b_m_verb 112 = .ok (.iload_n 2, 1) := by decide +kernel
theorem z_m_verb_113 : decode b_m_verb 113 = .ok (.iadd, 1) := by decide +kernel
theorem z_m_verb_114 : decode b_m_verb 114 = .ok (.iload 5, 2) := by decide +kernel
theorem z_m_verb_116 : decode b_m_verb 116 = .ok (.iastore, 1) := by decide +kernel
theorem z_m_verb_117 : decode b_m_verb 117 = .ok (.return_, 1) := by decide +kernel
theorem z_m_call_0 : decode b_m_call 0 = .ok (.aload_n 0, 1) := by decide +kernel
theorem z_m_call_1 : decode b_m_call 1 = .ok (.iload_n 1, 1) := by decide +kernel
theorem z_m_call_2 : decode b_m_call 2 = .ok (.iload_n 2, 1) := by decide +kernel
theorem z_m_call_3 : decode b_m_call 3 = .ok (.iload_n 3, 1) := by decide +kernel
theorem z_m_call_4 : decode b_m_call 4 = .ok (.iload 4, 2) := by decide +kernel
theorem z_m_call_6 : decode b_m_call 6 = .ok (.invokevirtual 115, 3) := by decide +kernel
theorem z_m_call_9 : decode b_m_call 9 = .ok (.ifCond .eq 19, 3) := by decide +kernel
theorem z_m_call_12 : decode b_m_call 12 = .ok (.aload_n 0, 1) := by decide +kernel
theorem z_m_call_13 : decode b_m_call 13 = .ok (.iload_n 1, 1) := by decide +kernel
theorem z_m_call_14 : decode b_m_call 14 = .ok (.iload_n 2, 1) := by decide +kernel
theorem z_m_call_15 : decode b_m_call 15 = .ok (.iload_n 3, 1) := by decide +kernel
theorem z_m_call_16 : decode b_m_call 16 = .ok (.bipush 12, 2) := by decide +kernel
theorem z_m_call_18 : decode b_m_call 18 = .ok (.aload_n 0, 1) := by decide +kernel
theorem z_m_call_19 : decode b_m_call 19 = .ok (.getfield 45, 3) := by decide +kernel
theorem z_m_call_22 : decode b_m_call 22 = .ok (.iadd, 1) := by decide +kernel
theorem z_m_call_23 : decode b_m_call 23 = .ok (.invokevirtual 119, 3) := by decide +kernel
theorem z_m_call_26 : decode b_m_call 26 = .ok (.lconst 0, 1) := by decide +kernel
theorem z_m_call_27 : decode b_m_call 27 = .ok (.lreturn, 1) := by decide +kernel
theorem z_m_call_28 : decode b_m_call 28 = .ok (.aload_n 0, 1) := by decide +kernel
theorem z_m_call_29 : decode b_m_call 29 = .ok (.iload_n 1, 1) := by decide +kernel
theorem z_m_call_30 : decode b_m_call 30 = .ok (.iload_n 2, 1) := by decide +kernel
theorem z_m_call_31 : decode b_m_call 31 = .ok (.iload_n 3, 1) := by decide +kernel
theorem z_m_call_32 : decode b_m_call 32 = .ok (.iload 4, 2) := by decide +kernel
theorem z_m_call_34 : decode b_m_call 34 = .ok (.invokevirtual 123, 3) := by decide +kernel
theorem z_m_call_37 : decode b_m_call 37 = .ok (.lstore 5, 2) := by decide +kernel
theorem z_m_call_39 : decode b_m_call 39 = .ok (.lload 5, 2) := by decide +kernel
theorem z_m_call_41 : decode b_m_call 41 = .ok (.ldc2_w 127, 3) := by decide +kernel
theorem z_m_call_44 : decode b_m_call 44 = .ok (.lcmp, 1) := by decide +kernel
theorem z_m_call_45 : decode b_m_call 45 = .ok (.ifCond .gt 7, 3) := by decide +kernel
theorem z_m_call_48 : decode b_m_call 48 = .ok (.iconst 1, 1) := by decide +kernel
theorem z_m_call_49 : decode b_m_call 49 = .ok (.goto 4, 3) := by decide +kernel
theorem z_m_call_52 : decode b_m_call 52 = .ok (.iconst 0, 1) := by decide +kernel
theorem z_m_call_53 : decode b_m_call 53 = .ok (.istore 7, 2) := by decide +kernel
theorem z_m_call_55 : decode b_m_call 55 = .ok (.aload_n 0, 1) := by decide +kernel
theorem z_m_call_56 : decode b_m_call 56 = .ok (.iload_n 1, 1) := by decide +kernel
theorem z_m_call_57 : decode b_m_call 57 = .ok (.iload_n 2, 1) := by decide +kernel
theorem z_m_call_58 : decode b_m_call 58 = .ok (.iload_n 3, 1) := by decide +kernel
theorem z_m_call_59 : decode b_m_call 59 = .ok (.iload 7, 2) := by decide +kernel
theorem z_m_call_61 : decode b_m_call 61 = .ok (.ifCond .eq 13, 3) := by decide +kernel
theorem z_m_call_64 : decode b_m_call 64 = .ok (.ldc2_w 127, 3) := by decide +kernel
theorem z_m_call_67 : decode b_m_call 67 = .ok (.lload 5, 2) := by decide +kernel
theorem z_m_call_69 : decode b_m_call 69 = .ok (.lsub, 1) := by decide +kernel
theorem z_m_call_70 : decode b_m_call 70 = .ok (.l2i, 1) := by decide +kernel
theorem z_m_call_71 : decode b_m_call 71 = .ok (.goto 4, 3) := by decide +kernel
theorem z_m_call_74 : decode b_m_call 74 = .ok (.iconst 0, 1) := by decide +kernel
theorem z_m_call_75 : decode b_m_call 75 = .ok (.invokevirtual 119, 3) := by decide +kernel
theorem z_m_call_78 : decode b_m_call 78 = .ok (.iload 7, 2) := by decide +kernel
theorem z_m_call_80 : decode b_m_call 80 = .ok (.ifCond .ne 23, 3) := by decide +kernel
theorem z_m_call_83 : decode b_m_call 83 = .ok (.aload_n 0, 1) := by decide +kernel
theorem z_m_call_84 : decode b_m_call 84 = .ok (.getfield 78, 3) := by decide +kernel
theorem z_m_call_87 : decode b_m_call 87 = .ok (.ifCond .lt 16, 3) := by decide +kernel
theorem z_m_call_90 : decode b_m_call 90 = .ok (.aload_n 0, 1) := by decide +kernel
theorem z_m_call_91 : decode b_m_call 91 = .ok (.getfield 23, 3) := by decide +kernel
theorem z_m_call_94 : decode b_m_call 94 = .ok (.aload_n 0, 1) := by decide +kernel
theorem z_m_call_95 : decode b_m_call 95 = .ok (.getfield 78, 3) := by decide +kernel
theorem z_m_call_98 : decode b_m_call 98 = .ok (.aload_n 0, 1) := by decide +kernel
theorem z_m_call_99 : decode b_m_call 99 = .ok (.getfield 81, 3) := by decide +kernel
theorem z_m_call_102 : decode b_m_call 102 = .ok (.lastore, 1) := by decide +kernel
theorem z_m_call_103 : decode b_m_call 103 = .ok (.iload 7, 2) := by decide +kernel
theorem z_m_call_105 : decode b_m_call 105 = .ok (.ifCond .ne 31, 3) := by decide +kernel
theorem z_m_call_108 : decode b_m_call 108 = .ok (.aload_n 0, 1) := by decide +kernel
theorem z_m_call_109 : decode b_m_call 109 = .ok (.getfield 33, 3) := by decide +kernel
theorem z_m_call_112 : decode b_m_call 112 = .ok (.bipush 8, 2) := by decide +kernel
theorem z_m_call_114 : decode b_m_call 114 = .ok (.iload_n 1, 1) := by decide +kernel
theorem z_m_call_115 : decode b_m_call 115 = .ok (.imul, 1) := by decide +kernel
theorem z_m_call_116 : decode b_m_call 116 = .ok (.iload_n 3, 1) := by decide +kernel
theorem z_m_call_117 : decode b_m_call 117 = .ok (.iadd, 1) := by decide +kernel
theorem z_m_call_118 : decode b_m_call 118 = .ok (.iaload, 1) := by decide +kernel
theorem z_m_call_119 : decode b_m_call 119 = .ok (.bipush 7, 2) := by decide +kernel
theorem z_m_call_121 : decode b_m_call 121 = .ok (.if_icmp .ne 15, 3) := by decide +kernel
theorem z_m_call_124 : decode b_m_call 124 = .ok (.aload_n 0, 1) := by decide +kernel
theorem z_m_call_125 : decode b_m_call 125 = .ok (.getfield 19, 3) := by decide +kernel
theorem z_m_call_128 : decode b_m_call 128 = .ok (.bipush 30, 2) := by decide +kernel
theorem z_m_call_130 : decode b_m_call 130 = .ok (.iload_n 1, 1) := by decide +kernel
theorem z_m_call_131 : decode b_m_call 131 = .ok (.imul, 1) := by decide +kernel
theorem z_m_call_132 : decode b_m_call 132 = .ok (.iload_n 2, 1) := by decide +kernel
theorem z_m_call_133 : decode b_m_call 133 = .ok (.iadd, 1) := by decide +kernel
theorem z_m_call_134 : decode b_m_call 134 = .ok (.iconst 0, 1) := by decide +kernel
theorem z_m_call_135 : decode b_m_call 135 = .ok (.bastore, 1) := by decide +kernel
theorem z_m_call_136 : decode b_m_call 136 = .ok (.lload 5, 2) := by decide +kernel
theorem z_m_call_138 : decode b_m_call 138 = .ok (.lreturn, 1) := by decide +kernel
theorem z_m_refuses_0 : decode b_m_refuses 0 = .ok (.aload_n 0, 1) := by decide +kernel
theorem z_m_refuses_1 : decode b_m_refuses 1 = .ok (.iload_n 1, 1) := by decide +kernel
theorem z_m_refuses_2 : decode b_m_refuses 2 = .ok (.iload_n 2, 1) := by decide +kernel
theorem z_m_refuses_3 : decode b_m_refuses 3 = .ok (.invokevirtual 65, 3) := by decide +kernel
theorem z_m_refuses_6 : decode b_m_refuses 6 = .ok (.ifCond .eq 13, 3) := by decide +kernel
theorem z_m_refuses_9 : decode b_m_refuses 9 = .ok (.iload_n 3, 1) := by decide +kernel
theorem z_m_refuses_10 : decode b_m_refuses 10 = .ok (.iconst 0, 1) := by decide +kernel
theorem z_m_refuses_11 : decode b_m_refuses 11 = .ok (.bipush 7, 2) := by decide +kernel
theorem z_m_refuses_13 : decode b_m_refuses 13 = .ok (.invokestatic 49, 3) := by decide +kernel
theorem z_m_refuses_16 : decode b_m_refuses 16 = .ok (.ifCond .ne 7, 3) := by decide +kernel
theorem z_m_refuses_19 : decode b_m_refuses 19 = .ok (.iconst 1, 1) := by decide +kernel
theorem z_m_refuses_20 : decode b_m_refuses 20 = .ok (.goto 4, 3) := by decide +kernel
theorem z_m_refuses_23 : decode b_m_refuses 23 = .ok (.iconst 0, 1) := by decide +kernel
theorem z_m_refuses_24 : decode b_m_refuses 24 = .ok (.istore 5, 2) := by decide +kernel
theorem z_m_refuses_26 : decode b_m_refuses 26 = .ok (.iload 5, 2) := by decide +kernel
theorem z_m_refuses_28 : decode b_m_refuses 28 = .ok (.ifCond .ne 17, 3) := by decide +kernel
theorem z_m_refuses_31 : decode b_m_refuses 31 = .ok (.aload_n 0, 1) := by decide +kernel
theorem z_m_refuses_32 : decode b_m_refuses 32 = .ok (.getfield 33, 3) := by decide +kernel
theorem z_m_refuses_35 : decode b_m_refuses 35 = .ok (.bipush 8, 2) := by decide +kernel
theorem z_m_refuses_37 : decode b_m_refuses 37 = .ok (.iload_n 1, 1) := by decide +kernel
theorem z_m_refuses_38 : decode b_m_refuses 38 = .ok (.imul, 1) := by decide +kernel
theorem z_m_refuses_39 : decode b_m_refuses 39 = .ok (.iload_n 3, 1) := by decide +kernel
theorem z_m_refuses_40 : decode b_m_refuses 40 = .ok (.iadd, 1) := by decide +kernel
theorem z_m_refuses_41 : decode b_m_refuses 41 = .ok (.iaload, 1) := by decide +kernel
theorem z_m_refuses_42 : decode b_m_refuses 42 = .ok (.ifCond .ne 7, 3) := by decide +kernel
theorem z_m_refuses_45 : decode b_m_refuses 45 = .ok (.iconst 1, 1) := by decide +kernel
theorem z_m_refuses_46 : decode b_m_refuses 46 = .ok (.goto 4, 3) := by decide +kernel
theorem z_m_refuses_49 : decode b_m_refuses 49 = .ok (.iconst 0, 1) := by decide +kernel
theorem z_m_refuses_50 : decode b_m_refuses 50 = .ok (.istore 5, 2) := by decide +kernel
theorem z_m_refuses_52 : decode b_m_refuses 52 = .ok (.aload_n 0, 1) := by decide +kernel
theorem z_m_refuses_53 : decode b_m_refuses 53 = .ok (.iload 5, 2) := by decide +kernel
theorem z_m_refuses_55 : decode b_m_refuses 55 = .ok (.iload 4, 2) := by decide +kernel
theorem z_m_refuses_57 : decode b_m_refuses 57 = .ok (.ldc 113, 2) := by decide +kernel
theorem z_m_refuses_59 : decode b_m_refuses 59 = .ok (.ldc 114, 2) := by decide +kernel
theorem z_m_refuses_61 : decode b_m_refuses 61 = .ok (.invokestatic 49, 3) := by decide +kernel
theorem z_m_refuses_64 : decode b_m_refuses 64 = .ok (.ifCond .ne 7, 3) := by decide +kernel
theorem z_m_refuses_67 : decode b_m_refuses 67 = .ok (.iconst 1, 1) := by decide +kernel
theorem z_m_refuses_68 : decode b_m_refuses 68 = .ok (.goto 4, 3) := by decide +kernel
theorem z_m_refuses_71 : decode b_m_refuses 71 = .ok (.iconst 0, 1) := by decide +kernel
theorem z_m_refuses_72 : decode b_m_refuses 72 = .ok (.iload 5, 2) := by decide +kernel
theorem z_m_refuses_74 : decode b_m_refuses 74 = .ok (.ifCond .ne 30, 3) := by decide +kernel
theorem z_m_refuses_77 : decode b_m_refuses 77 = .ok (.aload_n 0, 1) := by decide +kernel
theorem z_m_refuses_78 : decode b_m_refuses 78 = .ok (.getfield 19, 3) := by decide +kernel
theorem z_m_refuses_81 : decode b_m_refuses 81 = .ok (.iload 5, 2) := by decide +kernel
theorem z_m_refuses_83 : decode b_m_refuses 83 = .ok (.ifCond .eq 7, 3) := by decide +kernel
theorem z_m_refuses_86 : decode b_m_refuses 86 = .ok (.iconst 0, 1) := by decide +kernel
theorem z_m_refuses_87 : decode b_m_refuses 87 = .ok (.goto 9, 3) := by decide +kernel
theorem z_m_refuses_90 : decode b_m_refuses 90 = .ok (.bipush 30, 2) := by decide +kernel
theorem z_m_refuses_92 : decode b_m_refuses 92 = .ok (.iload_n 1, 1) := by decide +kernel
theorem z_m_refuses_93 : decode b_m_refuses 93 = .ok (.imul, 1) := by decide +kernel
theorem z_m_refuses_94 : decode b_m_refuses 94 = .ok (.iload_n 2, 1) := by decide +kernel
theorem z_m_refuses_95 : decode b_m_refuses 95 = .ok (.iadd, 1) := by decide +kernel
theorem z_m_refuses_96 : decode b_m_refuses 96 = .ok (.baload, 1) := by decide +kernel
theorem z_m_refuses_97 : decode b_m_refuses 97 = .ok (.ifCond .ne 7, 3) := by decide +kernel
theorem z_m_refuses_100 : decode b_m_refuses 100 = .ok (.iconst 1, 1) := by decide +kernel
theorem z_m_refuses_101 : decode b_m_refuses 101 = .ok (.goto 4, 3) := by decide +kernel
theorem z_m_refuses_104 : decode b_m_refuses 104 = .ok (.iconst 0, 1) := by decide +kernel
theorem z_m_refuses_105 : decode b_m_refuses 105 = .ok (.iconst 0, 1) := by decide +kernel
theorem z_m_refuses_106 : decode b_m_refuses 106 = .ok (.invokevirtual 61, 3) := by decide +kernel
theorem z_m_refuses_109 : decode b_m_refuses 109 = .ok (.ireturn, 1) := by decide +kernel
theorem z_m_tell_0 : decode b_m_tell 0 = .ok (.aload_n 0, 1) := by decide +kernel
theorem z_m_tell_1 : decode b_m_tell 1 = .ok (.dup, 1) := by decide +kernel
theorem z_m_tell_2 : decode b_m_tell 2 = .ok (.getfield 107, 3) := by decide +kernel
theorem z_m_tell_5 : decode b_m_tell 5 = .ok (.iconst 1, 1) := by decide +kernel
theorem z_m_tell_6 : decode b_m_tell 6 = .ok (.iadd, 1) := by decide +kernel
theorem z_m_tell_7 : decode b_m_tell 7 = .ok (.putfield 107, 3) := by decide +kernel
theorem z_m_tell_10 : decode b_m_tell 10 = .ok (.iload 4, 2) := by decide +kernel
theorem z_m_tell_12 : decode b_m_tell 12 = .ok (.ifCond .eq 12, 3) := by decide +kernel
theorem z_m_tell_15 : decode b_m_tell 15 = .ok (.aload_n 0, 1) := by decide +kernel
theorem z_m_tell_16 : decode b_m_tell 16 = .ok (.getfield 110, 3) := by decide +kernel
theorem z_m_tell_19 : decode b_m_tell 19 = .ok (.bipush 80, 2) := by decide +kernel
theorem z_m_tell_21 : decode b_m_tell 21 = .ok (.if_icmp .ne 4, 3) := by decide +kernel
theorem z_m_tell_24 : decode b_m_tell 24 = .ok (.return_, 1) := by decide +kernel
theorem z_m_tell_25 : decode b_m_tell 25 = .ok (.aload_n 0, 1) := by decide +kernel
theorem z_m_tell_26 : decode b_m_tell 26 = .ok (.getfield 42, 3) := by decide +kernel
theorem z_m_tell_29 : decode b_m_tell 29 = .ok (.iconst 5, 1) := by decide +kernel
theorem z_m_tell_30 : decode b_m_tell 30 = .ok (.aload_n 0, 1) := by decide +kernel
theorem z_m_tell_31 : decode b_m_tell 31 = .ok (.getfield 110, 3) := by decide +kernel
theorem z_m_tell_34 : decode b_m_tell 34 = .ok (.imul, 1) := by decide +kernel
theorem z_m_tell_35 : decode b_m_tell 35 = .ok (.aload_n 0, 1) := by decide +kernel
theorem z_m_tell_36 : decode b_m_tell 36 = .ok (.getfield 107, 3) := by decide +kernel
theorem z_m_tell_39 : decode b_m_tell 39 = .ok (.iastore, 1) := by decide +kernel
theorem z_m_tell_40 : decode b_m_tell 40 = .ok (.aload_n 0, 1) := by decide +kernel
theorem z_m_tell_41 : decode b_m_tell 41 = .ok (.getfield 42, 3) := by decide +kernel
theorem z_m_tell_44 : decode b_m_tell 44 = .ok (.iconst 5, 1) := by decide +kernel
theorem z_m_tell_45 : decode b_m_tell 45 = .ok (.aload_n 0, 1) := by decide +kernel
theorem z_m_tell_46 : decode b_m_tell 46 = .ok (.getfield 110, 3) := by decide +kernel
theorem z_m_tell_49 : decode b_m_tell 49 = .ok (.imul, 1) := by decide +kernel
theorem z_m_tell_50 : decode b_m_tell 50 = .ok (.iconst 1, 1) := by decide +kernel
theorem z_m_tell_51 : decode b_m_tell 51 = .ok (.iadd, 1) := by decide +kernel
theorem z_m_tell_52 : decode b_m_tell 52 = .ok (.iload_n 1, 1) := by decide +kernel
theorem z_m_tell_53 : decode b_m_tell 53 = .ok (.iastore, 1) := by decide +kernel
theorem z_m_tell_54 : decode b_m_tell 54 = .ok (.aload_n 0, 1) := by decide +kernel
theorem z_m_tell_55 : decode b_m_tell 55 = .ok (.getfield 42, 3) := by decide +kernel
theorem z_m_tell_58 : decode b_m_tell 58 = .ok (.iconst 5, 1) := by decide +kernel
theorem z_m_tell_59 : decode b_m_tell 59 = .ok (.aload_n 0, 1) := by decide +kernel
theorem z_m_tell_60 : decode b_m_tell 60 = .ok (.getfield 110, 3) := by decide +kernel
theorem z_m_tell_63 : decode b_m_tell 63 = .ok (.imul, 1) := by decide +kernel
theorem z_m_tell_64 : decode b_m_tell 64 = .ok (.iconst 2, 1) := by decide +kernel
theorem z_m_tell_65 : decode b_m_tell 65 = .ok (.iadd, 1) := by decide +kernel
theorem z_m_tell_66 : decode b_m_tell 66 = .ok (.iload_n 2, 1) := by decide +kernel
theorem z_m_tell_67 : decode b_m_tell 67 = .ok (.iastore, 1) := by decide +kernel
theorem z_m_tell_68 : decode b_m_tell 68 = .ok (.aload_n 0, 1) := by decide +kernel
theorem z_m_tell_69 : decode b_m_tell 69 = .ok (.getfield 42, 3) := by decide +kernel
theorem z_m_tell_72 : decode b_m_tell 72 = .ok (.iconst 5, 1) := by decide +kernel
theorem z_m_tell_73 : decode b_m_tell 73 = .ok (.aload_n 0, 1) := by decide +kernel
theorem z_m_tell_74 : decode b_m_tell 74 = .ok (.getfield 110, 3) := by decide +kernel
theorem z_m_tell_77 : decode b_m_tell 77 = .ok (.imul, 1) := by decide +kernel
theorem z_m_tell_78 : decode b_m_tell 78 = .ok (.iconst 3, 1) := by decide +kernel
theorem z_m_tell_79 : decode b_m_tell 79 = .ok (.iadd, 1) := by decide +kernel
theorem z_m_tell_80 : decode b_m_tell 80 = .ok (.iload_n 3, 1) := by decide +kernel
theorem z_m_tell_81 : decode b_m_tell 81 = .ok (.iastore, 1) := by decide +kernel
theorem z_m_tell_82 : decode b_m_tell 82 = .ok (.aload_n 0, 1) := by decide +kernel
theorem z_m_tell_83 : decode b_m_tell 83 = .ok (.getfield 42, 3) := by decide +kernel
theorem z_m_tell_86 : decode b_m_tell 86 = .ok (.iconst 5, 1) := by decide +kernel
theorem z_m_tell_87 : decode b_m_tell 87 = .ok (.aload_n 0, 1) := by decide +kernel
theorem z_m_tell_88 : decode b_m_tell 88 = .ok (.getfield 110, 3) := by decide +kernel
theorem z_m_tell_91 : decode b_m_tell 91 = .ok (.imul, 1) := by decide +kernel
theorem z_m_tell_92 : decode b_m_tell 92 = .ok (.iconst 4, 1) := by decide +kernel
theorem z_m_tell_93 : decode b_m_tell 93 = .ok (.iadd, 1) := by decide +kernel
theorem z_m_tell_94 : decode b_m_tell 94 = .ok (.iload 4, 2) := by decide +kernel
theorem z_m_tell_96 : decode b_m_tell 96 = .ok (.iastore, 1) := by decide +kernel
theorem z_m_tell_97 : decode b_m_tell 97 = .ok (.aload_n 0, 1) := by decide +kernel
theorem z_m_tell_98 : decode b_m_tell 98 = .ok (.dup, 1) := by decide +kernel
theorem z_m_tell_99 : decode b_m_tell 99 = .ok (.getfield 110, 3) := by decide +kernel
theorem z_m_tell_102 : decode b_m_tell 102 = .ok (.iconst 1, 1) := by decide +kernel
theorem z_m_tell_103 : decode b_m_tell 103 = .ok (.iadd, 1) := by decide +kernel
theorem z_m_tell_104 : decode b_m_tell 104 = .ok (.putfield 110, 3) := by decide +kernel
theorem z_m_tell_107 : decode b_m_tell 107 = .ok (.return_, 1) := by decide +kernel
theorem z_m_workOut_0 : decode b_m_workOut 0 = .ok (.bipush 30, 2) := by decide +kernel
theorem z_m_workOut_2 : decode b_m_workOut 2 = .ok (.iload_n 1, 1) := by decide +kernel
theorem z_m_workOut_3 : decode b_m_workOut 3 = .ok (.imul, 1) := by decide +kernel
theorem z_m_workOut_4 : decode b_m_workOut 4 = .ok (.iload_n 2, 1) := by decide +kernel
theorem z_m_workOut_5 : decode b_m_workOut 5 = .ok (.iadd, 1) := by decide +kernel
theorem z_m_workOut_6 : decode b_m_workOut 6 = .ok (.istore 5, 2) := by decide +kernel
theorem z_m_workOut_8 : decode b_m_workOut 8 = .ok (.aload_n 0, 1) := by decide +kernel
theorem z_m_workOut_9 : decode b_m_workOut 9 = .ok (.getfield 36, 3) := by decide +kernel
theorem z_m_workOut_12 : decode b_m_workOut 12 = .ok (.bipush 8, 2) := by decide +kernel
theorem z_m_workOut_14 : decode b_m_workOut 14 = .ok (.iload_n 1, 1) := by decide +kernel
theorem z_m_workOut_15 : decode b_m_workOut 15 = .ok (.imul, 1) := by decide +kernel
theorem z_m_workOut_16 : decode b_m_workOut 16 = .ok (.iload_n 3, 1) := by decide +kernel
theorem z_m_workOut_17 : decode b_m_workOut 17 = .ok (.iadd, 1) := by decide +kernel
theorem z_m_workOut_18 : decode b_m_workOut 18 = .ok (.iaload, 1) := by decide +kernel
theorem z_m_workOut_19 : decode b_m_workOut 19 = .ok (.i2l, 1) := by decide +kernel
theorem z_m_workOut_20 : decode b_m_workOut 20 = .ok (.lstore 6, 2) := by decide +kernel
theorem z_m_workOut_22 : decode b_m_workOut 22 = .ok (.aload_n 0, 1) := by decide +kernel
theorem z_m_workOut_23 : decode b_m_workOut 23 = .ok (.getfield 39, 3) := by decide +kernel
theorem z_m_workOut_26 : decode b_m_workOut 26 = .ok (.bipush 8, 2) := by decide +kernel
theorem z_m_workOut_28 : decode b_m_workOut 28 = .ok (.iload_n 1, 1) := by decide +kernel
theorem z_m_workOut_29 : decode b_m_workOut 29 = .ok (.imul, 1) := by decide +kernel
theorem z_m_workOut_30 : decode b_m_workOut 30 = .ok (.iload_n 3, 1) := by decide +kernel
theorem z_m_workOut_31 : decode b_m_workOut 31 = .ok (.iadd, 1) := by decide +kernel
theorem z_m_workOut_32 : decode b_m_workOut 32 = .ok (.iaload, 1) := by decide +kernel
theorem z_m_workOut_33 : decode b_m_workOut 33 = .ok (.i2l, 1) := by decide +kernel
theorem z_m_workOut_34 : decode b_m_workOut 34 = .ok (.lstore 8, 2) := by decide +kernel
theorem z_m_workOut_36 : decode b_m_workOut 36 = .ok (.aload_n 0, 1) := by decide +kernel
theorem z_m_workOut_37 : decode b_m_workOut 37 = .ok (.iconst (-1), 1) := by decide +kernel
theorem z_m_workOut_38 : decode b_m_workOut 38 = .ok (.putfield 78, 3) := by decide +kernel
theorem z_m_workOut_41 : decode b_m_workOut 41 = .ok (.aload_n 0, 1) := by decide +kernel
theorem z_m_workOut_42 : decode b_m_workOut 42 = .ok (.getfield 33, 3) := by decide +kernel
theorem z_m_workOut_45 : decode b_m_workOut 45 = .ok (.bipush 8, 2) := by decide +kernel
theorem z_m_workOut_47 : decode b_m_workOut 47 = .ok (.iload_n 1, 1) := by decide +kernel
theorem z_m_workOut_48 : decode b_m_workOut 48 = .ok (.imul, 1) := by decide +kernel
theorem z_m_workOut_49 : decode b_m_workOut 49 = .ok (.iload_n 3, 1) := by decide +kernel
theorem z_m_workOut_50 : decode b_m_workOut 50 = .ok (.iadd, 1) := by decide +kernel
theorem z_m_workOut_51 : decode b_m_workOut 51 = .ok (.iaload, 1) := by decide +kernel
theorem z_m_workOut_52 : decode b_m_workOut 52 = .ok (.tableswitch 191 1 6 #[40, 49, 73, 91, 102, 128], 40) := by decide +kernel
theorem z_m_workOut_92 : decode b_m_workOut 92 = .ok (.lload 6, 2) := by decide +kernel
theorem z_m_workOut_94 : decode b_m_workOut 94 = .ok (.iload_n 2, 1) := by decide +kernel
theorem z_m_workOut_95 : decode b_m_workOut 95 = .ok (.i2l, 1) := by decide +kernel
theorem z_m_workOut_96 : decode b_m_workOut 96 = .ok (.lmul, 1) := by decide +kernel
theorem z_m_workOut_97 : decode b_m_workOut 97 = .ok (.lload 8, 2) := by decide +kernel
theorem z_m_workOut_99 : decode b_m_workOut 99 = .ok (.ladd, 1) := by decide +kernel
theorem z_m_workOut_100 : decode b_m_workOut 100 = .ok (.lreturn, 1) := by decide +kernel
theorem z_m_workOut_101 : decode b_m_workOut 101 = .ok (.aload_n 0, 1) := by decide +kernel
theorem z_m_workOut_102 : decode b_m_workOut 102 = .ok (.iload 5, 2) := by decide +kernel
theorem z_m_workOut_104 : decode b_m_workOut 104 = .ok (.aload_n 0, 1) := by decide +kernel
theorem z_m_workOut_105 : decode b_m_workOut 105 = .ok (.getfield 23, 3) := by decide +kernel
theorem z_m_workOut_108 : decode b_m_workOut 108 = .ok (.iload 5, 2) := by decide +kernel
theorem z_m_workOut_110 : decode b_m_workOut 110 = .ok (.laload, 1) := by decide +kernel
theorem z_m_workOut_111 : decode b_m_workOut 111 = .ok (.iload 4, 2) := by decide +kernel
theorem z_m_workOut_113 : decode b_m_workOut 113 = .ok (.i2l, 1) := by decide +kernel
theorem z_m_workOut_114 : decode b_m_workOut 114 = .ok (.lload 6, 2) := by decide +kernel
theorem z_m_workOut_116 : decode b_m_workOut 116 = .ok (.lmul, 1) := by decide +kernel
theorem z_m_workOut_117 : decode b_m_workOut 117 = .ok (.ladd, 1) := by decide +kernel
theorem z_m_workOut_118 : decode b_m_workOut 118 = .ok (.lload 8, 2) := by decide +kernel
theorem z_m_workOut_120 : decode b_m_workOut 120 = .ok (.ladd, 1) := by decide +kernel
theorem z_m_workOut_121 : decode b_m_workOut 121 = .ok (.invokevirtual 85, 3) := by decide +kernel
theorem z_m_workOut_124 : decode b_m_workOut 124 = .ok (.lreturn, 1) := by decide +kernel
theorem z_m_workOut_125 : decode b_m_workOut 125 = .ok (.aload_n 0, 1) := by decide +kernel
theorem z_m_workOut_126 : decode b_m_workOut 126 = .ok (.getfield 23, 3) := by decide +kernel
theorem z_m_workOut_129 : decode b_m_workOut 129 = .ok (.iload 5, 2) := by decide +kernel
theorem z_m_workOut_131 : decode b_m_workOut 131 = .ok (.laload, 1) := by decide +kernel
theorem z_m_workOut_132 : decode b_m_workOut 132 = .ok (.lload 6, 2) := by decide +kernel
theorem z_m_workOut_134 : decode b_m_workOut 134 = .ok (.lmul, 1) := by decide +kernel
theorem z_m_workOut_135 : decode b_m_workOut 135 = .ok (.lload 8, 2) := by decide +kernel
theorem z_m_workOut_137 : decode b_m_workOut 137 = .ok (.ladd, 1) := by decide +kernel
theorem z_m_workOut_138 : decode b_m_workOut 138 = .ok (.iload 4, 2) := by decide +kernel
theorem z_m_workOut_140 : decode b_m_workOut 140 = .ok (.i2l, 1) := by decide +kernel
theorem z_m_workOut_141 : decode b_m_workOut 141 = .ok (.ladd, 1) := by decide +kernel
theorem z_m_workOut_142 : decode b_m_workOut 142 = .ok (.lreturn, 1) := by decide +kernel
theorem z_m_workOut_143 : decode b_m_workOut 143 = .ok (.ldc2_w 89, 3) := by decide +kernel
theorem z_m_workOut_146 : decode b_m_workOut 146 = .ok (.lload 6, 2) := by decide +kernel
theorem z_m_workOut_148 : decode b_m_workOut 148 = .ok (.ldc2_w 91, 3) := by decide +kernel
theorem z_m_workOut_151 : decode b_m_workOut 151 = .ok (.land, 1) := by decide +kernel
theorem z_m_workOut_152 : decode b_m_workOut 152 = .ok (.lsub, 1) := by decide +kernel
theorem z_m_workOut_153 : decode b_m_workOut 153 = .ok (.lreturn, 1) := by decide +kernel
theorem z_m_workOut_154 : decode b_m_workOut 154 = .ok (.iload 4, 2) := by decide +kernel
theorem z_m_workOut_156 : decode b_m_workOut 156 = .ok (.ifCond .ne 9, 3) := by decide +kernel
theorem z_m_workOut_159 : decode b_m_workOut 159 = .ok (.ldc2_w 93, 3) := by decide +kernel
theorem z_m_workOut_162 : decode b_m_workOut 162 = .ok (.goto 17, 3) := by decide +kernel
theorem z_m_workOut_165 : decode b_m_workOut 165 = .ok (.aload_n 0, 1) := by decide +kernel
theorem z_m_workOut_166 : decode b_m_workOut 166 = .ok (.getfield 23, 3) := by decide +kernel
theorem z_m_workOut_169 : decode b_m_workOut 169 = .ok (.iload 5, 2) := by decide +kernel
theorem z_m_workOut_171 : decode b_m_workOut 171 = .ok (.laload, 1) := by decide +kernel
theorem z_m_workOut_172 : decode b_m_workOut 172 = .ok (.iload 4, 2) := by decide +kernel
theorem z_m_workOut_174 : decode b_m_workOut 174 = .ok (.i2l, 1) := by decide +kernel
theorem z_m_workOut_175 : decode b_m_workOut 175 = .ok (.ldiv, 1) := by decide +kernel
theorem z_m_workOut_176 : decode b_m_workOut 176 = .ok (.lload 8, 2) := by decide +kernel
theorem z_m_workOut_178 : decode b_m_workOut 178 = .ok (.ladd, 1) := by decide +kernel
theorem z_m_workOut_179 : decode b_m_workOut 179 = .ok (.lreturn, 1) := by decide +kernel
theorem z_m_workOut_180 : decode b_m_workOut 180 = .ok (.aload_n 0, 1) := by decide +kernel
theorem z_m_workOut_181 : decode b_m_workOut 181 = .ok (.getfield 7, 3) := by decide +kernel
theorem z_m_workOut_184 : decode b_m_workOut 184 = .ok (.iload_n 1, 1) := by decide +kernel
theorem z_m_workOut_185 : decode b_m_workOut 185 = .ok (.iaload, 1) := by decide +kernel
theorem z_m_workOut_186 : decode b_m_workOut 186 = .ok (.ifCond .ge 9, 3) := by decide +kernel
theorem z_m_workOut_189 : decode b_m_workOut 189 = .ok (.ldc2_w 95, 3) := by decide +kernel
theorem z_m_workOut_192 : decode b_m_workOut 192 = .ok (.goto 50, 3) := by decide +kernel
theorem z_m_workOut_195 : decode b_m_workOut 195 = .ok (.aload_n 0, 1) := by decide +kernel
theorem z_m_workOut_196 : decode b_m_workOut 196 = .ok (.bipush 30, 2) := by decide +kernel
theorem z_m_workOut_198 : decode b_m_workOut 198 = .ok (.aload_n 0, 1) := by decide +kernel
theorem z_m_workOut_199 : decode b_m_workOut 199 = .ok (.getfield 7, 3) := by decide +kernel
theorem z_m_workOut_202 : decode b_m_workOut 202 = .ok (.iload_n 1, 1) := by decide +kernel
theorem z_m_workOut_203 : decode b_m_workOut 203 = .ok (.iaload, 1) := by decide +kernel
theorem z_m_workOut_204 : decode b_m_workOut 204 = .ok (.imul, 1) := by decide +kernel
theorem z_m_workOut_205 : decode b_m_workOut 205 = .ok (.aload_n 0, 1) := by decide +kernel
theorem z_m_workOut_206 : decode b_m_workOut 206 = .ok (.getfield 16, 3) := by decide +kernel
theorem z_m_workOut_209 : decode b_m_workOut 209 = .ok (.iload 5, 2) := by decide +kernel
theorem z_m_workOut_211 : decode b_m_workOut 211 = .ok (.iaload, 1) := by decide +kernel
theorem z_m_workOut_212 : decode b_m_workOut 212 = .ok (.iadd, 1) := by decide +kernel
theorem z_m_workOut_213 : decode b_m_workOut 213 = .ok (.aload_n 0, 1) := by decide +kernel
theorem z_m_workOut_214 : decode b_m_workOut 214 = .ok (.getfield 23, 3) := by decide +kernel
theorem z_m_workOut_217 : decode b_m_workOut 217 = .ok (.bipush 30, 2) := by decide +kernel
theorem z_m_workOut_219 : decode b_m_workOut 219 = .ok (.aload_n 0, 1) := by decide +kernel
theorem z_m_workOut_220 : decode b_m_workOut 220 = .ok (.getfield 7, 3) := by decide +kernel
theorem z_m_workOut_223 : decode b_m_workOut 223 = .ok (.iload_n 1, 1) := by decide +kernel
theorem z_m_workOut_224 : decode b_m_workOut 224 = .ok (.iaload, 1) := by decide +kernel
theorem z_m_workOut_225 : decode b_m_workOut 225 = .ok (.imul, 1) := by decide +kernel
theorem z_m_workOut_226 : decode b_m_workOut 226 = .ok (.aload_n 0, 1) := by decide +kernel
theorem z_m_workOut_227 : decode b_m_workOut 227 = .ok (.getfield 16, 3) := by decide +kernel
theorem z_m_workOut_230 : decode b_m_workOut 230 = .ok (.iload 5, 2) := by decide +kernel
theorem z_m_workOut_232 : decode b_m_workOut 232 = .ok (.iaload, 1) := by decide +kernel
theorem z_m_workOut_233 : decode b_m_workOut 233 = .ok (.iadd, 1) := by decide +kernel
theorem z_m_workOut_234 : decode b_m_workOut 234 = .ok (.laload, 1) := by decide +kernel
theorem z_m_workOut_235 : decode b_m_workOut 235 = .ok (.iload 4, 2) := by decide +kernel
theorem z_m_workOut_237 : decode b_m_workOut 237 = .ok (.i2l, 1) := by decide +kernel
theorem z_m_workOut_238 : decode b_m_workOut 238 = .ok (.ladd, 1) := by decide +kernel
theorem z_m_workOut_239 : decode b_m_workOut 239 = .ok (.invokevirtual 85, 3) := by decide +kernel
theorem z_m_workOut_242 : decode b_m_workOut 242 = .ok (.lreturn, 1) := by decide +kernel
theorem z_m_workOut_243 : decode b_m_workOut 243 = .ok (.aload_n 0, 1) := by decide +kernel
theorem z_m_workOut_244 : decode b_m_workOut 244 = .ok (.iload_n 1, 1) := by decide +kernel
theorem z_m_workOut_245 : decode b_m_workOut 245 = .ok (.iload_n 2, 1) := by decide +kernel
theorem z_m_workOut_246 : decode b_m_workOut 246 = .ok (.invokevirtual 97, 3) := by decide +kernel
theorem z_m_workOut_249 : decode b_m_workOut 249 = .ok (.ifCond .le 9, 3) := by decide +kernel
theorem z_m_workOut_252 : decode b_m_workOut 252 = .ok (.ldc2_w 101, 3) := by decide +kernel
theorem z_m_workOut_255 : decode b_m_workOut 255 = .ok (.goto 11, 3) := by decide +kernel
theorem z_m_workOut_258 : decode b_m_workOut 258 = .ok (.aload_n 0, 1) := by decide +kernel
theorem z_m_workOut_259 : decode b_m_workOut 259 = .ok (.iload_n 1, 1) := by decide +kernel
theorem z_m_workOut_260 : decode b_m_workOut 260 = .ok (.invokevirtual 103, 3) := by decide +kernel
theorem z_m_workOut_263 : decode b_m_workOut 263 = .ok (.iconst 1, 1) := by decide +kernel
theorem z_m_workOut_264 : decode b_m_workOut 264 = .ok (.isub, 1) := by decide +kernel
theorem z_m_workOut_265 : decode b_m_workOut 265 = .ok (.i2l, 1) := by decide +kernel
theorem z_m_workOut_266 : decode b_m_workOut 266 = .ok (.lreturn, 1) := by decide +kernel
theorem z_m_change_0 : decode b_m_change 0 = .ok (.lload_n 2, 1) := by decide +kernel
theorem z_m_change_1 : decode b_m_change 1 = .ok (.invokestatic 72, 3) := by decide +kernel
theorem z_m_change_4 : decode b_m_change 4 = .ok (.ifCond .ne 7, 3) := by decide +kernel
theorem z_m_change_7 : decode b_m_change 7 = .ok (.ldc2_w 76, 3) := by decide +kernel
theorem z_m_change_10 : decode b_m_change 10 = .ok (.lreturn, 1) := by decide +kernel
theorem z_m_change_11 : decode b_m_change 11 = .ok (.aload_n 0, 1) := by decide +kernel
theorem z_m_change_12 : decode b_m_change 12 = .ok (.iload_n 1, 1) := by decide +kernel
theorem z_m_change_13 : decode b_m_change 13 = .ok (.putfield 78, 3) := by decide +kernel
theorem z_m_change_16 : decode b_m_change 16 = .ok (.aload_n 0, 1) := by decide +kernel
theorem z_m_change_17 : decode b_m_change 17 = .ok (.lload_n 2, 1) := by decide +kernel
theorem z_m_change_18 : decode b_m_change 18 = .ok (.putfield 81, 3) := by decide +kernel
theorem z_m_change_21 : decode b_m_change 21 = .ok (.lload_n 2, 1) := by decide +kernel
theorem z_m_change_22 : decode b_m_change 22 = .ok (.lreturn, 1) := by decide +kernel
theorem z_m_isSum_0 : decode b_m_isSum 0 = .ok (.lload_n 0, 1) := by decide +kernel
theorem z_m_isSum_1 : decode b_m_isSum 1 = .ok (.ldc2_w 68, 3) := by decide +kernel
theorem z_m_isSum_4 : decode b_m_isSum 4 = .ok (.lcmp, 1) := by decide +kernel
theorem z_m_isSum_5 : decode b_m_isSum 5 = .ok (.ifCond .lt 15, 3) := by decide +kernel
theorem z_m_isSum_8 : decode b_m_isSum 8 = .ok (.lload_n 0, 1) := by decide +kernel
theorem z_m_isSum_9 : decode b_m_isSum 9 = .ok (.ldc2_w 70, 3) := by decide +kernel
theorem z_m_isSum_12 : decode b_m_isSum 12 = .ok (.lcmp, 1) := by decide +kernel
theorem z_m_isSum_13 : decode b_m_isSum 13 = .ok (.ifCond .gt 7, 3) := by decide +kernel
theorem z_m_isSum_16 : decode b_m_isSum 16 = .ok (.iconst 1, 1) := by decide +kernel
theorem z_m_isSum_17 : decode b_m_isSum 17 = .ok (.goto 4, 3) := by decide +kernel
theorem z_m_isSum_20 : decode b_m_isSum 20 = .ok (.iconst 0, 1) := by decide +kernel
theorem z_m_isSum_21 : decode b_m_isSum 21 = .ok (.ireturn, 1) := by decide +kernel
theorem z_m_openUnder_0 : decode b_m_openUnder 0 = .ok (.iconst 0, 1) := by decide +kernel
theorem z_m_openUnder_1 : decode b_m_openUnder 1 = .ok (.istore_n 3, 1) := by decide +kernel
theorem z_m_openUnder_2 : decode b_m_openUnder 2 = .ok (.iconst 0, 1) := by decide +kernel
theorem z_m_openUnder_3 : decode b_m_openUnder 3 = .ok (.istore 4, 2) := by decide +kernel
theorem z_m_openUnder_5 : decode b_m_openUnder 5 = .ok (.iload 4, 2) := by decide +kernel
theorem z_m_openUnder_7 : decode b_m_openUnder 7 = .ok (.sipush 240, 3) := by decide +kernel
theorem z_m_openUnder_10 : decode b_m_openUnder 10 = .ok (.if_icmp .ge 82, 3) := by decide +kernel
theorem z_m_openUnder_13 : decode b_m_openUnder 13 = .ok (.iload 4, 2) := by decide +kernel
theorem z_m_openUnder_15 : decode b_m_openUnder 15 = .ok (.bipush 30, 2) := by decide +kernel
theorem z_m_openUnder_17 : decode b_m_openUnder 17 = .ok (.irem, 1) := by decide +kernel
theorem z_m_openUnder_18 : decode b_m_openUnder 18 = .ok (.aload_n 0, 1) := by decide +kernel
theorem z_m_openUnder_19 : decode b_m_openUnder 19 = .ok (.getfield 13, 3) := by decide +kernel
theorem z_m_openUnder_22 : decode b_m_openUnder 22 = .ok (.iload 4, 2) := by decide +kernel
theorem z_m_openUnder_24 : decode b_m_openUnder 24 = .ok (.bipush 30, 2) := by decide +kernel
theorem z_m_openUnder_26 : decode b_m_openUnder 26 = .ok (.idiv, 1) := by decide +kernel
theorem z_m_openUnder_27 : decode b_m_openUnder 27 = .ok (.iaload, 1) := by decide +kernel
theorem z_m_openUnder_28 : decode b_m_openUnder 28 = .ok (.if_icmp .ge 32, 3) := by decide +kernel
theorem z_m_openUnder_31 : decode b_m_openUnder 31 = .ok (.aload_n 0, 1) := by decide +kernel
theorem z_m_openUnder_32 : decode b_m_openUnder 32 = .ok (.getfield 7, 3) := by decide +kernel
theorem z_m_openUnder_35 : decode b_m_openUnder 35 = .ok (.iload 4, 2) := by decide +kernel
theorem z_m_openUnder_37 : decode b_m_openUnder 37 = .ok (.bipush 30, 2) := by decide +kernel
theorem z_m_openUnder_39 : decode b_m_openUnder 39 = .ok (.idiv, 1) := by decide +kernel
theorem z_m_openUnder_40 : decode b_m_openUnder 40 = .ok (.iaload, 1) := by decide +kernel
theorem z_m_openUnder_41 : decode b_m_openUnder 41 = .ok (.iload_n 1, 1) := by decide +kernel
theorem z_m_openUnder_42 : decode b_m_openUnder 42 = .ok (.if_icmp .ne 18, 3) := by decide +kernel
theorem z_m_openUnder_45 : decode b_m_openUnder 45 = .ok (.aload_n 0, 1) := by decide +kernel
theorem z_m_openUnder_46 : decode b_m_openUnder 46 = .ok (.getfield 16, 3) := by decide +kernel
theorem z_m_openUnder_49 : decode b_m_openUnder 49 = .ok (.iload 4, 2) := by decide +kernel
theorem z_m_openUnder_51 : decode b_m_openUnder 51 = .ok (.iaload, 1) := by decide +kernel
theorem z_m_openUnder_52 : decode b_m_openUnder 52 = .ok (.iload_n 2, 1) := by decide +kernel
theorem z_m_openUnder_53 : decode b_m_openUnder 53 = .ok (.if_icmp .ne 7, 3) := by decide +kernel
theorem z_m_openUnder_56 : decode b_m_openUnder 56 = .ok (.iconst 1, 1) := by decide +kernel
theorem z_m_openUnder_57 : decode b_m_openUnder 57 = .ok (.goto 4, 3) := by decide +kernel
theorem z_m_openUnder_60 : decode b_m_openUnder 60 = .ok (.iconst 0, 1) := by decide +kernel
theorem z_m_openUnder_61 : decode b_m_openUnder 61 = .ok (.istore 5, 2) := by decide +kernel
theorem z_m_openUnder_63 : decode b_m_openUnder 63 = .ok (.iload_n 3, 1) := by decide +kernel
theorem z_m_openUnder_64 : decode b_m_openUnder 64 = .ok (.iload 5, 2) := by decide +kernel
theorem z_m_openUnder_66 : decode b_m_openUnder 66 = .ok (.ifCond .eq 17, 3) := by decide +kernel
theorem z_m_openUnder_69 : decode b_m_openUnder 69 = .ok (.aload_n 0, 1) := by decide +kernel
theorem z_m_openUnder_70 : decode b_m_openUnder 70 = .ok (.getfield 19, 3) := by decide +kernel
theorem z_m_openUnder_73 : decode b_m_openUnder 73 = .ok (.iload 4, 2) := by decide +kernel
theorem z_m_openUnder_75 : decode b_m_openUnder 75 = .ok (.baload, 1) := by decide +kernel
theorem z_m_openUnder_76 : decode b_m_openUnder 76 = .ok (.ifCond .eq 7, 3) := by decide +kernel
theorem z_m_openUnder_79 : decode b_m_openUnder 79 = .ok (.iconst 1, 1) := by decide +kernel
theorem z_m_openUnder_80 : decode b_m_openUnder 80 = .ok (.goto 4, 3) := by decide +kernel
theorem z_m_openUnder_83 : decode b_m_openUnder 83 = .ok (.iconst 0, 1) := by decide +kernel
theorem z_m_openUnder_84 : decode b_m_openUnder 84 = .ok (.iadd, 1) := by decide +kernel
theorem z_m_openUnder_85 : decode b_m_openUnder 85 = .ok (.istore_n 3, 1) := by decide +kernel
theorem z_m_openUnder_86 : decode b_m_openUnder 86 = .ok (.iinc 4 1, 3) := by decide +kernel
theorem z_m_openUnder_89 : decode b_m_openUnder 89 = .ok (.goto (-84), 3) := by decide +kernel
theorem z_m_openUnder_92 : decode b_m_openUnder 92 = .ok (.iload_n 3, 1) := by decide +kernel
theorem z_m_openUnder_93 : decode b_m_openUnder 93 = .ok (.ireturn, 1) := by decide +kernel
theorem z_m_openOf_0 : decode b_m_openOf 0 = .ok (.iconst 0, 1) := by decide +kernel
theorem z_m_openOf_1 : decode b_m_openOf 1 = .ok (.istore_n 2, 1) := by decide +kernel
theorem z_m_openOf_2 : decode b_m_openOf 2 = .ok (.iconst 0, 1) := by decide +kernel
theorem z_m_openOf_3 : decode b_m_openOf 3 = .ok (.istore_n 3, 1) := by decide +kernel
theorem z_m_openOf_4 : decode b_m_openOf 4 = .ok (.iload_n 3, 1) := by decide +kernel
theorem z_m_openOf_5 : decode b_m_openOf 5 = .ok (.aload_n 0, 1) := by decide +kernel
theorem z_m_openOf_6 : decode b_m_openOf 6 = .ok (.getfield 13, 3) := by decide +kernel
theorem z_m_openOf_9 : decode b_m_openOf 9 = .ok (.iload_n 1, 1) := by decide +kernel
theorem z_m_openOf_10 : decode b_m_openOf 10 = .ok (.iaload, 1) := by decide +kernel
theorem z_m_openOf_11 : decode b_m_openOf 11 = .ok (.if_icmp .ge 31, 3) := by decide +kernel
theorem z_m_openOf_14 : decode b_m_openOf 14 = .ok (.iload_n 2, 1) := by decide +kernel
theorem z_m_openOf_15 : decode b_m_openOf 15 = .ok (.aload_n 0, 1) := by decide +kernel
theorem z_m_openOf_16 : decode b_m_openOf 16 = .ok (.getfield 19, 3) := by decide +kernel
theorem z_m_openOf_19 : decode b_m_openOf 19 = .ok (.bipush 30, 2) := by decide +kernel
theorem z_m_openOf_21 : decode b_m_openOf 21 = .ok (.iload_n 1, 1) := by decide +kernel
theorem z_m_openOf_22 : decode b_m_openOf 22 = .ok (.imul, 1) := by decide +kernel
theorem z_m_openOf_23 : decode b_m_openOf 23 = .ok (.iload_n 3, 1) := by decide +kernel
theorem z_m_openOf_24 : decode b_m_openOf 24 = .ok (.iadd, 1) := by decide +kernel
theorem z_m_openOf_25 : decode b_m_openOf 25 = .ok (.baload, 1) := by decide +kernel
theorem z_m_openOf_26 : decode b_m_openOf 26 = .ok (.ifCond .eq 7, 3) := by decide +kernel
theorem z_m_openOf_29 : decode b_m_openOf 29 = .ok (.iconst 1, 1) := by decide +kernel
theorem z_m_openOf_30 : decode b_m_openOf 30 = .ok (.goto 4, 3) := by decide +kernel
theorem z_m_openOf_33 : decode b_m_openOf 33 = .ok (.iconst 0, 1) := by decide +kernel
theorem z_m_openOf_34 : decode b_m_openOf 34 = .ok (.iadd, 1) := by decide +kernel
theorem z_m_openOf_35 : decode b_m_openOf 35 = .ok (.istore_n 2, 1) := by decide +kernel
theorem z_m_openOf_36 : decode b_m_openOf 36 = .ok (.iinc 3 1, 3) := by decide +kernel
theorem z_m_openOf_39 : decode b_m_openOf 39 = .ok (.goto (-35), 3) := by decide +kernel
theorem z_m_openOf_42 : decode b_m_openOf 42 = .ok (.iload_n 2, 1) := by decide +kernel
theorem z_m_openOf_43 : decode b_m_openOf 43 = .ok (.ireturn, 1) := by decide +kernel
theorem z_m_simulate_0 : decode b_m_simulate 0 = .ok (.aload_n 0, 1) := by decide +kernel
theorem z_m_simulate_1 : decode b_m_simulate 1 = .ok (.iload_n 1, 1) := by decide +kernel
theorem z_m_simulate_2 : decode b_m_simulate 2 = .ok (.iload_n 2, 1) := by decide +kernel
theorem z_m_simulate_3 : decode b_m_simulate 3 = .ok (.iload_n 3, 1) := by decide +kernel
theorem z_m_simulate_4 : decode b_m_simulate 4 = .ok (.iload 4, 2) := by decide +kernel
theorem z_m_simulate_6 : decode b_m_simulate 6 = .ok (.invokevirtual 115, 3) := by decide +kernel
theorem z_m_simulate_9 : decode b_m_simulate 9 = .ok (.ifCond .eq 5, 3) := by decide +kernel
theorem z_m_simulate_12 : decode b_m_simulate 12 = .ok (.lconst 0, 1) := by decide +kernel
theorem z_m_simulate_13 : decode b_m_simulate 13 = .ok (.lreturn, 1) := by decide +kernel
theorem z_m_simulate_14 : decode b_m_simulate 14 = .ok (.aload_n 0, 1) := by decide +kernel
theorem z_m_simulate_15 : decode b_m_simulate 15 = .ok (.iload_n 1, 1) := by decide +kernel
theorem z_m_simulate_16 : decode b_m_simulate 16 = .ok (.iload_n 2, 1) := by decide +kernel
theorem z_m_simulate_17 : decode b_m_simulate 17 = .ok (.iload_n 3, 1) := by decide +kernel
theorem z_m_simulate_18 : decode b_m_simulate 18 = .ok (.iload 4, 2) := by decide +kernel
theorem z_m_simulate_20 : decode b_m_simulate 20 = .ok (.invokevirtual 123, 3) := by decide +kernel
theorem z_m_simulate_23 : decode b_m_simulate 23 = .ok (.lreturn, 1) := by decide +kernel
theorem z_m_text_0 : decode b_m_text 0 = .ok (.aload_n 0, 1) := by decide +kernel
theorem z_m_text_1 : decode b_m_text 1 = .ok (.iload_n 1, 1) := by decide +kernel
theorem z_m_text_2 : decode b_m_text 2 = .ok (.iload_n 2, 1) := by decide +kernel
theorem z_m_text_3 : decode b_m_text 3 = .ok (.invokevirtual 65, 3) := by decide +kernel
theorem z_m_text_6 : decode b_m_text 6 = .ok (.ifCond .ne 7, 3) := by decide +kernel
theorem z_m_text_9 : decode b_m_text 9 = .ok (.iconst 1, 1) := by decide +kernel
theorem z_m_text_10 : decode b_m_text 10 = .ok (.goto 4, 3) := by decide +kernel
theorem z_m_text_13 : decode b_m_text 13 = .ok (.iconst 0, 1) := by decide +kernel
theorem z_m_text_14 : decode b_m_text 14 = .ok (.istore 6, 2) := by decide +kernel
theorem z_m_text_16 : decode b_m_text 16 = .ok (.iload 6, 2) := by decide +kernel
theorem z_m_text_18 : decode b_m_text 18 = .ok (.ifCond .eq 7, 3) := by decide +kernel
theorem z_m_text_21 : decode b_m_text 21 = .ok (.iconst 0, 1) := by decide +kernel
theorem z_m_text_22 : decode b_m_text 22 = .ok (.goto 9, 3) := by decide +kernel
theorem z_m_text_25 : decode b_m_text 25 = .ok (.bipush 30, 2) := by decide +kernel
theorem z_m_text_27 : decode b_m_text 27 = .ok (.iload_n 1, 1) := by decide +kernel
theorem z_m_text_28 : decode b_m_text 28 = .ok (.imul, 1) := by decide +kernel
theorem z_m_text_29 : decode b_m_text 29 = .ok (.iload_n 2, 1) := by decide +kernel
theorem z_m_text_30 : decode b_m_text 30 = .ok (.iadd, 1) := by decide +kernel
theorem z_m_text_31 : decode b_m_text 31 = .ok (.istore 7, 2) := by decide +kernel
theorem z_m_text_33 : decode b_m_text 33 = .ok (.iload 5, 2) := by decide +kernel
theorem z_m_text_35 : decode b_m_text 35 = .ok (.iconst 1, 1) := by decide +kernel
theorem z_m_text_36 : decode b_m_text 36 = .ok (.bipush 8, 2) := by decide +kernel
theorem z_m_text_38 : decode b_m_text 38 = .ok (.invokestatic 49, 3) := by decide +kernel
theorem z_m_text_41 : decode b_m_text 41 = .ok (.ifCond .ne 7, 3) := by decide +kernel
theorem z_m_text_44 : decode b_m_text 44 = .ok (.iconst 1, 1) := by decide +kernel
theorem z_m_text_45 : decode b_m_text 45 = .ok (.goto 4, 3) := by decide +kernel
theorem z_m_text_48 : decode b_m_text 48 = .ok (.iconst 0, 1) := by decide +kernel
theorem z_m_text_49 : decode b_m_text 49 = .ok (.istore 8, 2) := by decide +kernel
theorem z_m_text_51 : decode b_m_text 51 = .ok (.aload_n 0, 1) := by decide +kernel
theorem z_m_text_52 : decode b_m_text 52 = .ok (.iload 6, 2) := by decide +kernel
theorem z_m_text_54 : decode b_m_text 54 = .ok (.iload 8, 2) := by decide +kernel
theorem z_m_text_56 : decode b_m_text 56 = .ok (.iload 6, 2) := by decide +kernel
theorem z_m_text_58 : decode b_m_text 58 = .ok (.ifCond .ne 17, 3) := by decide +kernel
theorem z_m_text_61 : decode b_m_text 61 = .ok (.aload_n 0, 1) := by decide +kernel
theorem z_m_text_62 : decode b_m_text 62 = .ok (.getfield 19, 3) := by decide +kernel
theorem z_m_text_65 : decode b_m_text 65 = .ok (.iload 7, 2) := by decide +kernel
theorem z_m_text_67 : decode b_m_text 67 = .ok (.baload, 1) := by decide +kernel
theorem z_m_text_68 : decode b_m_text 68 = .ok (.ifCond .ne 7, 3) := by decide +kernel
theorem z_m_text_71 : decode b_m_text 71 = .ok (.iconst 1, 1) := by decide +kernel
theorem z_m_text_72 : decode b_m_text 72 = .ok (.goto 4, 3) := by decide +kernel
theorem z_m_text_75 : decode b_m_text 75 = .ok (.iconst 0, 1) := by decide +kernel
theorem z_m_text_76 : decode b_m_text 76 = .ok (.iload 6, 2) := by decide +kernel
theorem z_m_text_78 : decode b_m_text 78 = .ok (.ifCond .ne 27, 3) := by decide +kernel
theorem z_m_text_81 : decode b_m_text 81 = .ok (.iload 8, 2) := by decide +kernel
theorem z_m_text_83 : decode b_m_text 83 = .ok (.ifCond .ne 22, 3) := by decide +kernel
theorem z_m_text_86 : decode b_m_text 86 = .ok (.aload_n 0, 1) := by decide +kernel
theorem z_m_text_87 : decode b_m_text 87 = .ok (.getfield 27, 3) := by decide +kernel
theorem z_m_text_90 : decode b_m_text 90 = .ok (.iload 7, 2) := by decide +kernel
theorem z_m_text_92 : decode b_m_text 92 = .ok (.iaload, 1) := by decide +kernel
theorem z_m_text_93 : decode b_m_text 93 = .ok (.iload 5, 2) := by decide +kernel
theorem z_m_text_95 : decode b_m_text 95 = .ok (.iadd, 1) := by decide +kernel
theorem z_m_text_96 : decode b_m_text 96 = .ok (.bipush 16, 2) := by decide +kernel
theorem z_m_text_98 : decode b_m_text 98 = .ok (.if_icmp .le 7, 3) := by decide +kernel
theorem z_m_text_101 : decode b_m_text 101 = .ok (.iconst 1, 1) := by decide +kernel
theorem z_m_text_102 : decode b_m_text 102 = .ok (.goto 4, 3) := by decide +kernel
theorem z_m_text_105 : decode b_m_text 105 = .ok (.iconst 0, 1) := by decide +kernel
theorem z_m_text_106 : decode b_m_text 106 = .ok (.invokevirtual 61, 3) := by decide +kernel
theorem z_m_text_109 : decode b_m_text 109 = .ok (.ifCond .eq 5, 3) := by decide +kernel
theorem z_m_text_112 : decode b_m_text 112 = .ok (.iconst 0, 1) := by decide +kernel
theorem z_m_text_113 : decode b_m_text 113 = .ok (.ireturn, 1) := by decide +kernel
theorem z_m_text_114 : decode b_m_text 114 = .ok (.iload 5, 2) := by decide +kernel
theorem z_m_text_116 : decode b_m_text 116 = .ok (.iconst 1, 1) := by decide +kernel
theorem z_m_text_117 : decode b_m_text 117 = .ok (.isub, 1) := by decide +kernel
theorem z_m_text_118 : decode b_m_text 118 = .ok (.istore 9, 2) := by decide +kernel
theorem z_m_text_120 : decode b_m_text 120 = .ok (.iload 9, 2) := by decide +kernel
theorem z_m_text_122 : decode b_m_text 122 = .ok (.ifCond .lt 50, 3) := by decide +kernel
theorem z_m_text_125 : decode b_m_text 125 = .ok (.aload_n 0, 1) := by decide +kernel
theorem z_m_text_126 : decode b_m_text 126 = .ok (.getfield 30, 3) := by decide +kernel
theorem z_m_text_129 : decode b_m_text 129 = .ok (.bipush 16, 2) := by decide +kernel
theorem z_m_text_131 : decode b_m_text 131 = .ok (.iload 7, 2) := by decide +kernel
theorem z_m_text_133 : decode b_m_text 133 = .ok (.imul, 1) := by decide +kernel
theorem z_m_text_134 : decode b_m_text 134 = .ok (.aload_n 0, 1) := by decide +kernel
theorem z_m_text_135 : decode b_m_text 135 = .ok (.getfield 27, 3) := by decide +kernel
theorem z_m_text_138 : decode b_m_text 138 = .ok (.iload 7, 2) := by decide +kernel
theorem z_m_text_140 : decode b_m_text 140 = .ok (.iaload, 1) := by decide +kernel
theorem z_m_text_141 : decode b_m_text 141 = .ok (.iadd, 1) := by decide +kernel
theorem z_m_text_142 : decode b_m_text 142 = .ok (.lload_n 3, 1) := by decide +kernel
theorem z_m_text_143 : decode b_m_text 143 = .ok (.bipush 8, 2) := by decide +kernel
theorem z_m_text_145 : decode b_m_text 145 = .ok (.iload 9, 2) := by decide +kernel
theorem z_m_text_147 : decode b_m_text 147 = .ok (.imul, 1) := by decide +kernel
theorem z_m_text_148 : decode b_m_text 148 = .ok (.lshr, 1) := by decide +kernel
theorem z_m_text_149 : decode b_m_text 149 = .ok (.l2i, 1) := by decide +kernel
theorem z_m_text_150 : decode b_m_text 150 = .ok (.sipush 255, 3) := by decide +kernel
theorem z_m_text_153 : decode b_m_text 153 = .ok (.iand, 1) := by decide +kernel
theorem z_m_text_154 : decode b_m_text 154 = .ok (.iastore, 1) := by decide +kernel
theorem z_m_text_155 : decode b_m_text 155 = .ok (.aload_n 0, 1) := by decide +kernel
theorem z_m_text_156 : decode b_m_text 156 = .ok (.getfield 27, 3) := by decide +kernel
theorem z_m_text_159 : decode b_m_text 159 = .ok (.iload 7, 2) := by decide +kernel
theorem z_m_text_161 : decode b_m_text 161 = .ok (.dup2, 1) := by decide +kernel
theorem z_m_text_162 : decode b_m_text 162 = .ok (.iaload, 1) := by decide +kernel
theorem z_m_text_163 : decode b_m_text 163 = .ok (.iconst 1, 1) := by decide +kernel
theorem z_m_text_164 : decode b_m_text 164 = .ok (.iadd, 1) := by decide +kernel
theorem z_m_text_165 : decode b_m_text 165 = .ok (.iastore, 1) := by decide +kernel
theorem z_m_text_166 : decode b_m_text 166 = .ok (.iinc 9 (-1), 3) := by decide +kernel
theorem z_m_text_169 : decode b_m_text 169 = .ok (.goto (-49), 3) := by decide +kernel
theorem z_m_text_172 : decode b_m_text 172 = .ok (.aload_n 0, 1) := by decide +kernel
theorem z_m_text_173 : decode b_m_text 173 = .ok (.getfield 27, 3) := by decide +kernel
theorem z_m_text_176 : decode b_m_text 176 = .ok (.iload 7, 2) := by decide +kernel
theorem z_m_text_178 : decode b_m_text 178 = .ok (.iaload, 1) := by decide +kernel
theorem z_m_text_179 : decode b_m_text 179 = .ok (.ireturn, 1) := by decide +kernel
theorem z_m_textAt_0 : decode b_m_textAt 0 = .ok (.aload_n 0, 1) := by decide +kernel
theorem z_m_textAt_1 : decode b_m_textAt 1 = .ok (.aload_n 0, 1) := by decide +kernel
theorem z_m_textAt_2 : decode b_m_textAt 2 = .ok (.iload_n 1, 1) := by decide +kernel
theorem z_m_textAt_3 : decode b_m_textAt 3 = .ok (.iload_n 2, 1) := by decide +kernel
theorem z_m_textAt_4 : decode b_m_textAt 4 = .ok (.invokevirtual 65, 3) := by decide +kernel
theorem z_m_textAt_7 : decode b_m_textAt 7 = .ok (.ifCond .ne 7, 3) := by decide +kernel
theorem z_m_textAt_10 : decode b_m_textAt 10 = .ok (.iconst 1, 1) := by decide +kernel
theorem z_m_textAt_11 : decode b_m_textAt 11 = .ok (.goto 4, 3) := by decide +kernel
theorem z_m_textAt_14 : decode b_m_textAt 14 = .ok (.iconst 0, 1) := by decide +kernel
theorem z_m_textAt_15 : decode b_m_textAt 15 = .ok (.iload_n 3, 1) := by decide +kernel
theorem z_m_textAt_16 : decode b_m_textAt 16 = .ok (.ifCond .ge 7, 3) := by decide +kernel
theorem z_m_textAt_19 : decode b_m_textAt 19 = .ok (.iconst 1, 1) := by decide +kernel
theorem z_m_textAt_20 : decode b_m_textAt 20 = .ok (.goto 4, 3) := by decide +kernel
theorem z_m_textAt_23 : decode b_m_textAt 23 = .ok (.iconst 0, 1) := by decide +kernel
theorem z_m_textAt_24 : decode b_m_textAt 24 = .ok (.iconst 0, 1) := by decide +kernel
theorem z_m_textAt_25 : decode b_m_textAt 25 = .ok (.iconst 0, 1) := by decide +kernel
theorem z_m_textAt_26 : decode b_m_textAt 26 = .ok (.invokevirtual 61, 3) := by decide +kernel
theorem z_m_textAt_29 : decode b_m_textAt 29 = .ok (.ifCond .eq 5, 3) := by decide +kernel
theorem z_m_textAt_32 : decode b_m_textAt 32 = .ok (.iconst 0, 1) := by decide +kernel
theorem z_m_textAt_33 : decode b_m_textAt 33 = .ok (.ireturn, 1) := by decide +kernel
theorem z_m_textAt_34 : decode b_m_textAt 34 = .ok (.bipush 30, 2) := by decide +kernel
theorem z_m_textAt_36 : decode b_m_textAt 36 = .ok (.iload_n 1, 1) := by decide +kernel
theorem z_m_textAt_37 : decode b_m_textAt 37 = .ok (.imul, 1) := by decide +kernel
theorem z_m_textAt_38 : decode b_m_textAt 38 = .ok (.iload_n 2, 1) := by decide +kernel
theorem z_m_textAt_39 : decode b_m_textAt 39 = .ok (.iadd, 1) := by decide +kernel
theorem z_m_textAt_40 : decode b_m_textAt 40 = .ok (.istore 4, 2) := by decide +kernel
theorem z_m_textAt_42 : decode b_m_textAt 42 = .ok (.iload_n 3, 1) := by decide +kernel
theorem z_m_textAt_43 : decode b_m_textAt 43 = .ok (.aload_n 0, 1) := by decide +kernel
theorem z_m_textAt_44 : decode b_m_textAt 44 = .ok (.getfield 27, 3) := by decide +kernel
theorem z_m_textAt_47 : decode b_m_textAt 47 = .ok (.iload 4, 2) := by decide +kernel
theorem z_m_textAt_49 : decode b_m_textAt 49 = .ok (.iaload, 1) := by decide +kernel
theorem z_m_textAt_50 : decode b_m_textAt 50 = .ok (.if_icmp .ge 18, 3) := by decide +kernel
theorem z_m_textAt_53 : decode b_m_textAt 53 = .ok (.aload_n 0, 1) := by decide +kernel
theorem z_m_textAt_54 : decode b_m_textAt 54 = .ok (.getfield 30, 3) := by decide +kernel
theorem z_m_textAt_57 : decode b_m_textAt 57 = .ok (.bipush 16, 2) := by decide +kernel
theorem z_m_textAt_59 : decode b_m_textAt 59 = .ok (.iload 4, 2) := by decide +kernel
theorem z_m_textAt_61 : decode b_m_textAt 61 = .ok (.imul, 1) := by decide +kernel
theorem z_m_textAt_62 : decode b_m_textAt 62 = .ok (.iload_n 3, 1) := by decide +kernel
theorem z_m_textAt_63 : decode b_m_textAt 63 = .ok (.iadd, 1) := by decide +kernel
theorem z_m_textAt_64 : decode b_m_textAt 64 = .ok (.iaload, 1) := by decide +kernel
theorem z_m_textAt_65 : decode b_m_textAt 65 = .ok (.goto 4, 3) := by decide +kernel
theorem z_m_textAt_68 : decode b_m_textAt 68 = .ok (.iconst (-1), 1) := by decide +kernel
theorem z_m_textAt_69 : decode b_m_textAt 69 = .ok (.ireturn, 1) := by decide +kernel
theorem z_m_find_0 : decode b_m_find 0 = .ok (.aload_n 0, 1) := by decide +kernel
theorem z_m_find_1 : decode b_m_find 1 = .ok (.iload_n 1, 1) := by decide +kernel
theorem z_m_find_2 : decode b_m_find 2 = .ok (.invokestatic 53, 3) := by decide +kernel
theorem z_m_find_5 : decode b_m_find 5 = .ok (.ifCond .ne 7, 3) := by decide +kernel
theorem z_m_find_8 : decode b_m_find 8 = .ok (.iconst 1, 1) := by decide +kernel
theorem z_m_find_9 : decode b_m_find 9 = .ok (.goto 4, 3) := by decide +kernel
theorem z_m_find_12 : decode b_m_find 12 = .ok (.iconst 0, 1) := by decide +kernel
theorem z_m_find_13 : decode b_m_find 13 = .ok (.iload 4, 2) := by decide +kernel
theorem z_m_find_15 : decode b_m_find 15 = .ok (.iconst 0, 1) := by decide +kernel
theorem z_m_find_16 : decode b_m_find 16 = .ok (.bipush 8, 2) := by decide +kernel
theorem z_m_find_18 : decode b_m_find 18 = .ok (.invokestatic 49, 3) := by decide +kernel
theorem z_m_find_21 : decode b_m_find 21 = .ok (.ifCond .ne 7, 3) := by decide +kernel
theorem z_m_find_24 : decode b_m_find 24 = .ok (.iconst 1, 1) := by decide +kernel
theorem z_m_find_25 : decode b_m_find 25 = .ok (.goto 4, 3) := by decide +kernel
theorem z_m_find_28 : decode b_m_find 28 = .ok (.iconst 0, 1) := by decide +kernel
theorem z_m_find_29 : decode b_m_find 29 = .ok (.iconst 0, 1) := by decide +kernel
theorem z_m_find_30 : decode b_m_find 30 = .ok (.iconst 0, 1) := by decide +kernel
theorem z_m_find_31 : decode b_m_find 31 = .ok (.invokevirtual 61, 3) := by decide +kernel
theorem z_m_find_34 : decode b_m_find 34 = .ok (.ifCond .eq 5, 3) := by decide +kernel
theorem z_m_find_37 : decode b_m_find 37 = .ok (.iconst 0, 1) := by decide +kernel
theorem z_m_find_38 : decode b_m_find 38 = .ok (.ireturn, 1) := by decide +kernel
theorem z_m_find_39 : decode b_m_find 39 = .ok (.iconst 0, 1) := by decide +kernel
theorem z_m_find_40 : decode b_m_find 40 = .ok (.istore 5, 2) := by decide +kernel
theorem z_m_find_42 : decode b_m_find 42 = .ok (.iload 5, 2) := by decide +kernel
theorem z_m_find_44 : decode b_m_find 44 = .ok (.aload_n 0, 1) := by decide +kernel
theorem z_m_find_45 : decode b_m_find 45 = .ok (.getfield 13, 3) := by decide +kernel
theorem z_m_find_48 : decode b_m_find 48 = .ok (.iload_n 1, 1) := by decide +kernel
theorem z_m_find_49 : decode b_m_find 49 = .ok (.iaload, 1) := by decide +kernel
theorem z_m_find_50 : decode b_m_find 50 = .ok (.if_icmp .ge 116, 3) := by decide +kernel
theorem z_m_find_53 : decode b_m_find 53 = .ok (.bipush 30, 2) := by decide +kernel
theorem z_m_find_55 : decode b_m_find 55 = .ok (.iload_n 1, 1) := by decide +kernel
theorem z_m_find_56 : decode b_m_find 56 = .ok (.imul, 1) := by decide +kernel
theorem z_m_find_57 : decode b_m_find 57 = .ok (.iload 5, 2) := by decide +kernel
theorem z_m_find_59 : decode b_m_find 59 = .ok (.iadd, 1) := by decide +kernel
theorem z_m_find_60 : decode b_m_find 60 = .ok (.istore 6, 2) := by decide +kernel
theorem z_m_find_62 : decode b_m_find 62 = .ok (.aload_n 0, 1) := by decide +kernel
theorem z_m_find_63 : decode b_m_find 63 = .ok (.getfield 19, 3) := by decide +kernel
theorem z_m_find_66 : decode b_m_find 66 = .ok (.iload 6, 2) := by decide +kernel
theorem z_m_find_68 : decode b_m_find 68 = .ok (.baload, 1) := by decide +kernel
theorem z_m_find_69 : decode b_m_find 69 = .ok (.ifCond .eq 19, 3) := by decide +kernel
theorem z_m_find_72 : decode b_m_find 72 = .ok (.aload_n 0, 1) := by decide +kernel
theorem z_m_find_73 : decode b_m_find 73 = .ok (.getfield 27, 3) := by decide +kernel
theorem z_m_find_76 : decode b_m_find 76 = .ok (.iload 6, 2) := by decide +kernel
theorem z_m_find_78 : decode b_m_find 78 = .ok (.iaload, 1) := by decide +kernel
theorem z_m_find_79 : decode b_m_find 79 = .ok (.iload 4, 2) := by decide +kernel
theorem z_m_find_81 : decode b_m_find 81 = .ok (.if_icmp .ne 7, 3) := by decide +kernel
theorem z_m_find_84 : decode b_m_find 84 = .ok (.iconst 1, 1) := by decide +kernel
theorem z_m_find_85 : decode b_m_find 85 = .ok (.goto 4, 3) := by decide +kernel
theorem z_m_find_88 : decode b_m_find 88 = .ok (.iconst 0, 1) := by decide +kernel
theorem z_m_find_89 : decode b_m_find 89 = .ok (.istore 7, 2) := by decide +kernel
theorem z_m_find_91 : decode b_m_find 91 = .ok (.iconst 0, 1) := by decide +kernel
theorem z_m_find_92 : decode b_m_find 92 = .ok (.istore 8, 2) := by decide +kernel
theorem z_m_find_94 : decode b_m_find 94 = .ok (.iload 8, 2) := by decide +kernel
theorem z_m_find_96 : decode b_m_find 96 = .ok (.iload 4, 2) := by decide +kernel
theorem z_m_find_98 : decode b_m_find 98 = .ok (.if_icmp .ge 54, 3) := by decide +kernel
theorem z_m_find_101 : decode b_m_find 101 = .ok (.iload 7, 2) := by decide +kernel
theorem z_m_find_103 : decode b_m_find 103 = .ok (.ifCond .eq 49, 3) := by decide +kernel
theorem z_m_find_106 : decode b_m_find 106 = .ok (.aload_n 0, 1) := by decide +kernel
theorem z_m_find_107 : decode b_m_find 107 = .ok (.getfield 30, 3) := by decide +kernel
theorem z_m_find_110 : decode b_m_find 110 = .ok (.bipush 16, 2) := by decide +kernel
theorem z_m_find_112 : decode b_m_find 112 = .ok (.iload 6, 2) := by decide +kernel
theorem z_m_find_114 : decode b_m_find 114 = .ok (.imul, 1) := by decide +kernel
theorem z_m_find_115 : decode b_m_find 115 = .ok (.iload 8, 2) := by decide +kernel
theorem z_m_find_117 : decode b_m_find 117 = .ok (.iadd, 1) := by decide +kernel
theorem z_m_find_118 : decode b_m_find 118 = .ok (.iaload, 1) := by decide +kernel
theorem z_m_find_119 : decode b_m_find 119 = .ok (.lload_n 2, 1) := by decide +kernel
theorem z_m_find_120 : decode b_m_find 120 = .ok (.bipush 8, 2) := by decide +kernel
theorem z_m_find_122 : decode b_m_find 122 = .ok (.iload 4, 2) := by decide +kernel
theorem z_m_find_124 : decode b_m_find 124 = .ok (.iconst 1, 1) := by decide +kernel
theorem z_m_find_125 : decode b_m_find 125 = .ok (.isub, 1) := by decide +kernel
theorem z_m_find_126 : decode b_m_find 126 = .ok (.iload 8, 2) := by decide +kernel
theorem z_m_find_128 : decode b_m_find 128 = .ok (.isub, 1) := by decide +kernel
theorem z_m_find_129 : decode b_m_find 129 = .ok (.imul, 1) := by decide +kernel
theorem z_m_find_130 : decode b_m_find 130 = .ok (.lshr, 1) := by decide +kernel
theorem z_m_find_131 : decode b_m_find 131 = .ok (.l2i, 1) := by decide +kernel
theorem z_m_find_132 : decode b_m_find 132 = .ok (.sipush 255, 3) := by decide +kernel
theorem z_m_find_135 : decode b_m_find 135 = .ok (.iand, 1) := by decide +kernel
theorem z_m_find_136 : decode b_m_find 136 = .ok (.if_icmp .ne 7, 3) := by decide +kernel
theorem z_m_find_139 : decode b_m_find 139 = .ok (.iconst 1, 1) := by decide +kernel
theorem z_m_find_140 : decode b_m_find 140 = .ok (.goto 4, 3) := by decide +kernel
theorem z_m_find_143 : decode b_m_find 143 = .ok (.iconst 0, 1) := by decide +kernel
theorem z_m_find_144 : decode b_m_find 144 = .ok (.istore 7, 2) := by decide +kernel
theorem z_m_find_146 : decode b_m_find 146 = .ok (.iinc 8 1, 3) := by decide +kernel
theorem z_m_find_149 : decode b_m_find 149 = .ok (.goto (-55), 3) := by decide +kernel
theorem z_m_find_152 : decode b_m_find 152 = .ok (.iload 7, 2) := by decide +kernel
theorem z_m_find_154 : decode b_m_find 154 = .ok (.ifCond .eq 6, 3) := by decide +kernel
theorem z_m_find_157 : decode b_m_find 157 = .ok (.iload 5, 2) := by decide +kernel
theorem z_m_find_159 : decode b_m_find 159 = .ok (.ireturn, 1) := by decide +kernel
theorem z_m_find_160 : decode b_m_find 160 = .ok (.iinc 5 1, 3) := by decide +kernel
theorem z_m_find_163 : decode b_m_find 163 = .ok (.goto (-121), 3) := by decide +kernel
theorem z_m_find_166 : decode b_m_find 166 = .ok (.iconst (-1), 1) := by decide +kernel
theorem z_m_find_167 : decode b_m_find 167 = .ok (.ireturn, 1) := by decide +kernel
theorem z_m_subject_0 : decode b_m_subject 0 = .ok (.aload_n 0, 1) := by decide +kernel
theorem z_m_subject_1 : decode b_m_subject 1 = .ok (.aload_n 0, 1) := by decide +kernel
theorem z_m_subject_2 : decode b_m_subject 2 = .ok (.iload_n 1, 1) := by decide +kernel
theorem z_m_subject_3 : decode b_m_subject 3 = .ok (.iload_n 2, 1) := by decide +kernel
theorem z_m_subject_4 : decode b_m_subject 4 = .ok (.invokevirtual 65, 3) := by decide +kernel
theorem z_m_subject_7 : decode b_m_subject 7 = .ok (.ifCond .eq 12, 3) := by decide +kernel
theorem z_m_subject_10 : decode b_m_subject 10 = .ok (.iload_n 3, 1) := by decide +kernel
theorem z_m_subject_11 : decode b_m_subject 11 = .ok (.iconst 0, 1) := by decide +kernel
theorem z_m_subject_12 : decode b_m_subject 12 = .ok (.iconst 3, 1) := by decide +kernel
theorem z_m_subject_13 : decode b_m_subject 13 = .ok (.invokestatic 49, 3) := by decide +kernel
theorem z_m_subject_16 : decode b_m_subject 16 = .ok (.ifCond .ne 7, 3) := by decide +kernel
theorem z_m_subject_19 : decode b_m_subject 19 = .ok (.iconst 1, 1) := by decide +kernel
theorem z_m_subject_20 : decode b_m_subject 20 = .ok (.goto 4, 3) := by decide +kernel
theorem z_m_subject_23 : decode b_m_subject 23 = .ok (.iconst 0, 1) := by decide +kernel
theorem z_m_subject_24 : decode b_m_subject 24 = .ok (.iconst 0, 1) := by decide +kernel
theorem z_m_subject_25 : decode b_m_subject 25 = .ok (.iconst 0, 1) := by decide +kernel
theorem z_m_subject_26 : decode b_m_subject 26 = .ok (.iconst 0, 1) := by decide +kernel
theorem z_m_subject_27 : decode b_m_subject 27 = .ok (.invokevirtual 61, 3) := by decide +kernel
theorem z_m_subject_30 : decode b_m_subject 30 = .ok (.ifCond .eq 5, 3) := by decide +kernel
theorem z_m_subject_33 : decode b_m_subject 33 = .ok (.iconst 0, 1) := by decide +kernel
theorem z_m_subject_34 : decode b_m_subject 34 = .ok (.ireturn, 1) := by decide +kernel
theorem z_m_subject_35 : decode b_m_subject 35 = .ok (.bipush 30, 2) := by decide +kernel
theorem z_m_subject_37 : decode b_m_subject 37 = .ok (.iload_n 1, 1) := by decide +kernel
theorem z_m_subject_38 : decode b_m_subject 38 = .ok (.imul, 1) := by decide +kernel
theorem z_m_subject_39 : decode b_m_subject 39 = .ok (.iload_n 2, 1) := by decide +kernel
theorem z_m_subject_40 : decode b_m_subject 40 = .ok (.iadd, 1) := by decide +kernel
theorem z_m_subject_41 : decode b_m_subject 41 = .ok (.istore 4, 2) := by decide +kernel
theorem z_m_subject_43 : decode b_m_subject 43 = .ok (.iload_n 3, 1) := by decide +kernel
theorem z_m_subject_44 : decode b_m_subject 44 = .ok (.ifCond .ne 13, 3) := by decide +kernel
theorem z_m_subject_47 : decode b_m_subject 47 = .ok (.aload_n 0, 1) := by decide +kernel
theorem z_m_subject_48 : decode b_m_subject 48 = .ok (.getfield 16, 3) := by decide +kernel
theorem z_m_subject_51 : decode b_m_subject 51 = .ok (.iload 4, 2) := by decide +kernel
theorem z_m_subject_53 : decode b_m_subject 53 = .ok (.iaload, 1) := by decide +kernel
theorem z_m_subject_54 : decode b_m_subject 54 = .ok (.goto 48, 3) := by decide +kernel
theorem z_m_subject_57 : decode b_m_subject 57 = .ok (.iload_n 3, 1) := by decide +kernel
theorem z_m_subject_58 : decode b_m_subject 58 = .ok (.iconst 1, 1) := by decide +kernel
theorem z_m_subject_59 : decode b_m_subject 59 = .ok (.if_icmp .ne 21, 3) := by decide +kernel
theorem z_m_subject_62 : decode b_m_subject 62 = .ok (.aload_n 0, 1) := by decide +kernel
theorem z_m_subject_63 : decode b_m_subject 63 = .ok (.getfield 19, 3) := by decide +kernel
theorem z_m_subject_66 : decode b_m_subject 66 = .ok (.iload 4, 2) := by decide +kernel
theorem z_m_subject_68 : decode b_m_subject 68 = .ok (.baload, 1) := by decide +kernel
theorem z_m_subject_69 : decode b_m_subject 69 = .ok (.ifCond .eq 7, 3) := by decide +kernel
theorem z_m_subject_72 : decode b_m_subject 72 = .ok (.iconst 1, 1) := by decide +kernel
theorem z_m_subject_73 : decode b_m_subject 73 = .ok (.goto 29, 3) := by decide +kernel
theorem z_m_subject_76 : decode b_m_subject 76 = .ok (.iconst 0, 1) := by decide +kernel
theorem z_m_subject_77 : decode b_m_subject 77 = .ok (.goto 25, 3) := by decide +kernel
theorem z_m_subject_80 : decode b_m_subject 80 = .ok (.iload_n 3, 1) := by decide +kernel
theorem z_m_subject_81 : decode b_m_subject 81 = .ok (.iconst 2, 1) := by decide +kernel
theorem z_m_subject_82 : decode b_m_subject 82 = .ok (.if_icmp .ne 14, 3) := by decide +kernel
theorem z_m_subject_85 : decode b_m_subject 85 = .ok (.aload_n 0, 1) := by decide +kernel
theorem z_m_subject_86 : decode b_m_subject 86 = .ok (.getfield 23, 3) := by decide +kernel
theorem z_m_subject_89 : decode b_m_subject 89 = .ok (.iload 4, 2) := by decide +kernel
theorem z_m_subject_91 : decode b_m_subject 91 = .ok (.laload, 1) := by decide +kernel
theorem z_m_subject_92 : decode b_m_subject 92 = .ok (.l2i, 1) := by decide +kernel
theorem z_m_subject_93 : decode b_m_subject 93 = .ok (.goto 9, 3) := by decide +kernel
theorem z_m_subject_96 : decode b_m_subject 96 = .ok (.aload_n 0, 1) := by decide +kernel
theorem z_m_subject_97 : decode b_m_subject 97 = .ok (.iload_n 1, 1) := by decide +kernel
theorem z_m_subject_98 : decode b_m_subject 98 = .ok (.iload_n 2, 1) := by decide +kernel
theorem z_m_subject_99 : decode b_m_subject 99 = .ok (.invokevirtual 97, 3) := by decide +kernel
theorem z_m_subject_102 : decode b_m_subject 102 = .ok (.ireturn, 1) := by decide +kernel
theorem z_m_row_0 : decode b_m_row 0 = .ok (.aload_n 0, 1) := by decide +kernel
theorem z_m_row_1 : decode b_m_row 1 = .ok (.iload_n 1, 1) := by decide +kernel
theorem z_m_row_2 : decode b_m_row 2 = .ok (.iconst 0, 1) := by decide +kernel
theorem z_m_row_3 : decode b_m_row 3 = .ok (.aload_n 0, 1) := by decide +kernel
theorem z_m_row_4 : decode b_m_row 4 = .ok (.getfield 110, 3) := by decide +kernel
theorem z_m_row_7 : decode b_m_row 7 = .ok (.iconst 1, 1) := by decide +kernel
theorem z_m_row_8 : decode b_m_row 8 = .ok (.isub, 1) := by decide +kernel
theorem z_m_row_9 : decode b_m_row 9 = .ok (.invokestatic 49, 3) := by decide +kernel
theorem z_m_row_12 : decode b_m_row 12 = .ok (.ifCond .eq 12, 3) := by decide +kernel
theorem z_m_row_15 : decode b_m_row 15 = .ok (.iload_n 2, 1) := by decide +kernel
theorem z_m_row_16 : decode b_m_row 16 = .ok (.iconst 0, 1) := by decide +kernel
theorem z_m_row_17 : decode b_m_row 17 = .ok (.iconst 4, 1) := by decide +kernel
theorem z_m_row_18 : decode b_m_row 18 = .ok (.invokestatic 49, 3) := by decide +kernel
theorem z_m_row_21 : decode b_m_row 21 = .ok (.ifCond .ne 7, 3) := by decide +kernel
theorem z_m_row_24 : decode b_m_row 24 = .ok (.iconst 1, 1) := by decide +kernel
theorem z_m_row_25 : decode b_m_row 25 = .ok (.goto 4, 3) := by decide +kernel
theorem z_m_row_28 : decode b_m_row 28 = .ok (.iconst 0, 1) := by decide +kernel
theorem z_m_row_29 : decode b_m_row 29 = .ok (.iconst 0, 1) := by decide +kernel
theorem z_m_row_30 : decode b_m_row 30 = .ok (.iconst 0, 1) := by decide +kernel
theorem z_m_row_31 : decode b_m_row 31 = .ok (.iconst 0, 1) := by decide +kernel
theorem z_m_row_32 : decode b_m_row 32 = .ok (.invokevirtual 61, 3) := by decide +kernel
theorem z_m_row_35 : decode b_m_row 35 = .ok (.ifCond .eq 5, 3) := by decide +kernel
theorem z_m_row_38 : decode b_m_row 38 = .ok (.iconst 0, 1) := by decide +kernel
theorem z_m_row_39 : decode b_m_row 39 = .ok (.ireturn, 1) := by decide +kernel
theorem z_m_row_40 : decode b_m_row 40 = .ok (.aload_n 0, 1) := by decide +kernel
theorem z_m_row_41 : decode b_m_row 41 = .ok (.getfield 42, 3) := by decide +kernel
theorem z_m_row_44 : decode b_m_row 44 = .ok (.iconst 5, 1) := by decide +kernel
theorem z_m_row_45 : decode b_m_row 45 = .ok (.iload_n 1, 1) := by decide +kernel
theorem z_m_row_46 : decode b_m_row 46 = .ok (.imul, 1) := by decide +kernel
theorem z_m_row_47 : decode b_m_row 47 = .ok (.iload_n 2, 1) := by decide +kernel
theorem z_m_row_48 : decode b_m_row 48 = .ok (.iadd, 1) := by decide +kernel
theorem z_m_row_49 : decode b_m_row 49 = .ok (.iaload, 1) := by decide +kernel
theorem z_m_row_50 : decode b_m_row 50 = .ok (.ireturn, 1) := by decide +kernel
theorem z_m_tick_0 : decode b_m_tick 0 = .ok (.aload_n 0, 1) := by decide +kernel
theorem z_m_tick_1 : decode b_m_tick 1 = .ok (.iload_n 1, 1) := by decide +kernel
theorem z_m_tick_2 : decode b_m_tick 2 = .ok (.iconst 1, 1) := by decide +kernel
theorem z_m_tick_3 : decode b_m_tick 3 = .ok (.ldc 129, 2) := by decide +kernel
theorem z_m_tick_5 : decode b_m_tick 5 = .ok (.invokestatic 49, 3) := by decide +kernel
theorem z_m_tick_8 : decode b_m_tick 8 = .ok (.ifCond .eq 14, 3) := by decide +kernel
theorem z_m_tick_11 : decode b_m_tick 11 = .ok (.aload_n 0, 1) := by decide +kernel
theorem z_m_tick_12 : decode b_m_tick 12 = .ok (.getfield 130, 3) := by decide +kernel
theorem z_m_tick_15 : decode b_m_tick 15 = .ok (.iload_n 1, 1) := by decide +kernel
theorem z_m_tick_16 : decode b_m_tick 16 = .ok (.iadd, 1) := by decide +kernel
theorem z_m_tick_17 : decode b_m_tick 17 = .ok (.ldc 133, 2) := by decide +kernel
theorem z_m_tick_19 : decode b_m_tick 19 = .ok (.if_icmp .le 7, 3) := by decide +kernel
theorem z_m_tick_22 : decode b_m_tick 22 = .ok (.iconst 1, 1) := by decide +kernel
theorem z_m_tick_23 : decode b_m_tick 23 = .ok (.goto 4, 3) := by decide +kernel
theorem z_m_tick_26 : decode b_m_tick 26 = .ok (.iconst 0, 1) := by decide +kernel
theorem z_m_tick_27 : decode b_m_tick 27 = .ok (.iconst 0, 1) := by decide +kernel
theorem z_m_tick_28 : decode b_m_tick 28 = .ok (.iconst 0, 1) := by decide +kernel
theorem z_m_tick_29 : decode b_m_tick 29 = .ok (.iconst 0, 1) := by decide +kernel
theorem z_m_tick_30 : decode b_m_tick 30 = .ok (.invokevirtual 61, 3) := by decide +kernel
theorem z_m_tick_33 : decode b_m_tick 33 = .ok (.ifCond .eq 5, 3) := by decide +kernel
theorem z_m_tick_36 : decode b_m_tick 36 = .ok (.iconst 0, 1) := by decide +kernel
theorem z_m_tick_37 : decode b_m_tick 37 = .ok (.ireturn, 1) := by decide +kernel
theorem z_m_tick_38 : decode b_m_tick 38 = .ok (.aload_n 0, 1) := by decide +kernel
theorem z_m_tick_39 : decode b_m_tick 39 = .ok (.dup, 1) := by decide +kernel
theorem z_m_tick_40 : decode b_m_tick 40 = .ok (.getfield 130, 3) := by decide +kernel
theorem z_m_tick_43 : decode b_m_tick 43 = .ok (.iload_n 1, 1) := by decide +kernel
theorem z_m_tick_44 : decode b_m_tick 44 = .ok (.iadd, 1) := by decide +kernel
theorem z_m_tick_45 : decode b_m_tick 45 = .ok (.putfield 130, 3) := by decide +kernel
theorem z_m_tick_48 : decode b_m_tick 48 = .ok (.aload_n 0, 1) := by decide +kernel
theorem z_m_tick_49 : decode b_m_tick 49 = .ok (.getfield 130, 3) := by decide +kernel
theorem z_m_tick_52 : decode b_m_tick 52 = .ok (.ireturn, 1) := by decide +kernel
theorem z_m_count_0 : decode b_m_count 0 = .ok (.aload_n 0, 1) := by decide +kernel
theorem z_m_count_1 : decode b_m_count 1 = .ok (.iload_n 1, 1) := by decide +kernel
theorem z_m_count_2 : decode b_m_count 2 = .ok (.iconst 0, 1) := by decide +kernel
theorem z_m_count_3 : decode b_m_count 3 = .ok (.iconst 3, 1) := by decide +kernel
theorem z_m_count_4 : decode b_m_count 4 = .ok (.invokestatic 49, 3) := by decide +kernel
theorem z_m_count_7 : decode b_m_count 7 = .ok (.ifCond .ne 7, 3) := by decide +kernel
theorem z_m_count_10 : decode b_m_count 10 = .ok (.iconst 1, 1) := by decide +kernel
theorem z_m_count_11 : decode b_m_count 11 = .ok (.goto 4, 3) := by decide +kernel
theorem z_m_count_14 : decode b_m_count 14 = .ok (.iconst 0, 1) := by decide +kernel
theorem z_m_count_15 : decode b_m_count 15 = .ok (.iconst 0, 1) := by decide +kernel
theorem z_m_count_16 : decode b_m_count 16 = .ok (.iconst 0, 1) := by decide +kernel
theorem z_m_count_17 : decode b_m_count 17 = .ok (.iconst 0, 1) := by decide +kernel
theorem z_m_count_18 : decode b_m_count 18 = .ok (.invokevirtual 61, 3) := by decide +kernel
theorem z_m_count_21 : decode b_m_count 21 = .ok (.ifCond .eq 5, 3) := by decide +kernel
theorem z_m_count_24 : decode b_m_count 24 = .ok (.iconst 0, 1) := by decide +kernel
theorem z_m_count_25 : decode b_m_count 25 = .ok (.ireturn, 1) := by decide +kernel
theorem z_m_count_26 : decode b_m_count 26 = .ok (.iconst 0, 1) := by decide +kernel
theorem z_m_count_27 : decode b_m_count 27 = .ok (.istore_n 2, 1) := by decide +kernel
theorem z_m_count_28 : decode b_m_count 28 = .ok (.iconst 0, 1) := by decide +kernel
theorem z_m_count_29 : decode b_m_count 29 = .ok (.istore_n 3, 1) := by decide +kernel
theorem z_m_count_30 : decode b_m_count 30 = .ok (.iconst 0, 1) := by decide +kernel
theorem z_m_count_31 : decode b_m_count 31 = .ok (.istore 4, 2) := by decide +kernel
theorem z_m_count_33 : decode b_m_count 33 = .ok (.iload 4, 2) := by decide +kernel
theorem z_m_count_35 : decode b_m_count 35 = .ok (.bipush 8, 2) := by decide +kernel
theorem z_m_count_37 : decode b_m_count 37 = .ok (.if_icmp .ge 28, 3) := by decide +kernel
theorem z_m_count_40 : decode b_m_count 40 = .ok (.iload_n 2, 1) := by decide +kernel
theorem z_m_count_41 : decode b_m_count 41 = .ok (.aload_n 0, 1) := by decide +kernel
theorem z_m_count_42 : decode b_m_count 42 = .ok (.getfield 13, 3) := by decide +kernel
theorem z_m_count_45 : decode b_m_count 45 = .ok (.iload 4, 2) := by decide +kernel
theorem z_m_count_47 : decode b_m_count 47 = .ok (.iaload, 1) := by decide +kernel
theorem z_m_count_48 : decode b_m_count 48 = .ok (.iadd, 1) := by decide +kernel
theorem z_m_count_49 : decode b_m_count 49 = .ok (.istore_n 2, 1) := by decide +kernel
theorem z_m_count_50 : decode b_m_count 50 = .ok (.iload_n 3, 1) := by decide +kernel
theorem z_m_count_51 : decode b_m_count 51 = .ok (.aload_n 0, 1) := by decide +kernel
theorem z_m_count_52 : decode b_m_count 52 = .ok (.iload 4, 2) := by decide +kernel
theorem z_m_count_54 : decode b_m_count 54 = .ok (.invokevirtual 103, 3) := by decide +kernel
theorem z_m_count_57 : decode b_m_count 57 = .ok (.iadd, 1) := by decide +kernel
theorem z_m_count_58 : decode b_m_count 58 = .ok (.istore_n 3, 1) := by decide +kernel
theorem z_m_count_59 : decode b_m_count 59 = .ok (.iinc 4 1, 3) := by decide +kernel
theorem z_m_count_62 : decode b_m_count 62 = .ok (.goto (-29), 3) := by decide +kernel
theorem z_m_count_65 : decode b_m_count 65 = .ok (.iload_n 1, 1) := by decide +kernel
theorem z_m_count_66 : decode b_m_count 66 = .ok (.ifCond .ne 10, 3) := by decide +kernel
theorem z_m_count_69 : decode b_m_count 69 = .ok (.aload_n 0, 1) := by decide +kernel
theorem z_m_count_70 : decode b_m_count 70 = .ok (.getfield 107, 3) := by decide +kernel
theorem z_m_count_73 : decode b_m_count 73 = .ok (.goto 25, 3) := by decide +kernel
theorem z_m_count_76 : decode b_m_count 76 = .ok (.iload_n 1, 1) := by decide +kernel
theorem z_m_count_77 : decode b_m_count 77 = .ok (.iconst 1, 1) := by decide +kernel
theorem z_m_count_78 : decode b_m_count 78 = .ok (.if_icmp .ne 10, 3) := by decide +kernel
theorem z_m_count_81 : decode b_m_count 81 = .ok (.aload_n 0, 1) := by decide +kernel
theorem z_m_count_82 : decode b_m_count 82 = .ok (.getfield 110, 3) := by decide +kernel
theorem z_m_count_85 : decode b_m_count 85 = .ok (.goto 13, 3) := by decide +kernel
theorem z_m_count_88 : decode b_m_count 88 = .ok (.iload_n 1, 1) := by decide +kernel
theorem z_m_count_89 : decode b_m_count 89 = .ok (.iconst 2, 1) := by decide +kernel
theorem z_m_count_90 : decode b_m_count 90 = .ok (.if_icmp .ne 7, 3) := by decide +kernel
theorem z_m_count_93 : decode b_m_count 93 = .ok (.iload_n 2, 1) := by decide +kernel
theorem z_m_count_94 : decode b_m_count 94 = .ok (.goto 4, 3) := by decide +kernel
theorem z_m_count_97 : decode b_m_count 97 = .ok (.iload_n 3, 1) := by decide +kernel
theorem z_m_count_98 : decode b_m_count 98 = .ok (.ireturn, 1) := by decide +kernel
theorem z_m_book_0 : decode b_m_book 0 = .ok (.aload_n 0, 1) := by decide +kernel
theorem z_m_book_1 : decode b_m_book 1 = .ok (.iconst 0, 1) := by decide +kernel
theorem z_m_book_2 : decode b_m_book 2 = .ok (.putfield 45, 3) := by decide +kernel
theorem z_m_book_5 : decode b_m_book 5 = .ok (.iconst 0, 1) := by decide +kernel
theorem z_m_book_6 : decode b_m_book 6 = .ok (.aload_n 0, 1) := by decide +kernel
theorem z_m_book_7 : decode b_m_book 7 = .ok (.getfield 130, 3) := by decide +kernel
theorem z_m_book_10 : decode b_m_book 10 = .ok (.invokestatic 135, 3) := by decide +kernel
theorem z_m_book_13 : decode b_m_book 13 = .ok (.aload_n 0, 1) := by decide +kernel
theorem z_m_book_14 : decode b_m_book 14 = .ok (.getfield 107, 3) := by decide +kernel
theorem z_m_book_17 : decode b_m_book 17 = .ok (.invokestatic 135, 3) := by decide +kernel
theorem z_m_book_20 : decode b_m_book 20 = .ok (.istore_n 1, 1) := by decide +kernel
theorem z_m_book_21 : decode b_m_book 21 = .ok (.iconst 0, 1) := by decide +kernel
theorem z_m_book_22 : decode b_m_book 22 = .ok (.istore_n 2, 1) := by decide +kernel
theorem z_m_book_23 : decode b_m_book 23 = .ok (.iload_n 2, 1) := by decide +kernel
theorem z_m_book_24 : decode b_m_book 24 = .ok (.bipush 8, 2) := by decide +kernel
theorem z_m_book_26 : decode b_m_book 26 = .ok (.if_icmp .ge 126, 3) := by decide +kernel
theorem z_m_book_29 : decode b_m_book 29 = .ok (.iload_n 1, 1) := by decide +kernel
theorem z_m_book_30 : decode b_m_book 30 = .ok (.aload_n 0, 1) := by decide +kernel
theorem z_m_book_31 : decode b_m_book 31 = .ok (.getfield 7, 3) := by decide +kernel
theorem z_m_book_34 : decode b_m_book 34 = .ok (.iload_n 2, 1) := by decide +kernel
theorem z_m_book_35 : decode b_m_book 35 = .ok (.iaload, 1) := by decide +kernel
theorem z_m_book_36 : decode b_m_book 36 = .ok (.invokestatic 135, 3) := by decide +kernel
theorem z_m_book_39 : decode b_m_book 39 = .ok (.istore_n 1, 1) := by decide +kernel
theorem z_m_book_40 : decode b_m_book 40 = .ok (.iconst 0, 1) := by decide +kernel
theorem z_m_book_41 : decode b_m_book 41 = .ok (.istore_n 3, 1) := by decide +kernel
theorem z_m_book_42 : decode b_m_book 42 = .ok (.iload_n 3, 1) := by decide +kernel
theorem z_m_book_43 : decode b_m_book 43 = .ok (.aload_n 0, 1) := by decide +kernel
theorem z_m_book_44 : decode b_m_book 44 = .ok (.getfield 13, 3) := by decide +kernel
theorem z_m_book_47 : decode b_m_book 47 = .ok (.iload_n 2, 1) := by decide +kernel
theorem z_m_book_48 : decode b_m_book 48 = .ok (.iaload, 1) := by decide +kernel
theorem z_m_book_49 : decode b_m_book 49 = .ok (.if_icmp .ge 97, 3) := by decide +kernel
theorem z_m_book_52 : decode b_m_book 52 = .ok (.bipush 30, 2) := by decide +kernel
theorem z_m_book_54 : decode b_m_book 54 = .ok (.iload_n 2, 1) := by decide +kernel
theorem z_m_book_55 : decode b_m_book 55 = .ok (.imul, 1) := by decide +kernel
theorem z_m_book_56 : decode b_m_book 56 = .ok (.iload_n 3, 1) := by decide +kernel
theorem z_m_book_57 : decode b_m_book 57 = .ok (.iadd, 1) := by decide +kernel
theorem z_m_book_58 : decode b_m_book 58 = .ok (.istore 4, 2) := by decide +kernel
theorem z_m_book_60 : decode b_m_book 60 = .ok (.iload_n 1, 1) := by decide +kernel
theorem z_m_book_61 : decode b_m_book 61 = .ok (.aload_n 0, 1) := by decide +kernel
theorem z_m_book_62 : decode b_m_book 62 = .ok (.getfield 16, 3) := by decide +kernel
theorem z_m_book_65 : decode b_m_book 65 = .ok (.iload 4, 2) := by decide +kernel
theorem z_m_book_67 : decode b_m_book 67 = .ok (.iaload, 1) := by decide +kernel
theorem z_m_book_68 : decode b_m_book 68 = .ok (.invokestatic 135, 3) := by decide +kernel
theorem z_m_book_71 : decode b_m_book 71 = .ok (.aload_n 0, 1) := by decide +kernel
theorem z_m_book_72 : decode b_m_book 72 = .ok (.getfield 19, 3) := by decide +kernel
theorem z_m_book_75 : decode b_m_book 75 = .ok (.iload 4, 2) := by decide +kernel
theorem z_m_book_77 : decode b_m_book 77 = .ok (.baload, 1) := by decide +kernel
theorem z_m_book_78 : decode b_m_book 78 = .ok (.ifCond .eq 7, 3) := by decide +kernel
theorem z_m_book_81 : decode b_m_book 81 = .ok (.iconst 1, 1) := by decide +kernel
theorem z_m_book_82 : decode b_m_book 82 = .ok (.goto 4, 3) := by decide +kernel
theorem z_m_book_85 : decode b_m_book 85 = .ok (.iconst 0, 1) := by decide +kernel
theorem z_m_book_86 : decode b_m_book 86 = .ok (.invokestatic 135, 3) := by decide +kernel
theorem z_m_book_89 : decode b_m_book 89 = .ok (.aload_n 0, 1) := by decide +kernel
theorem z_m_book_90 : decode b_m_book 90 = .ok (.getfield 23, 3) := by decide +kernel
theorem z_m_book_93 : decode b_m_book 93 = .ok (.iload 4, 2) := by decide +kernel
theorem z_m_book_95 : decode b_m_book 95 = .ok (.laload, 1) := by decide +kernel
theorem z_m_book_96 : decode b_m_book 96 = .ok (.l2i, 1) := by decide +kernel
theorem z_m_book_97 : decode b_m_book 97 = .ok (.invokestatic 135, 3) := by decide +kernel
theorem z_m_book_100 : decode b_m_book 100 = .ok (.istore_n 1, 1) := by decide +kernel
theorem z_m_book_101 : decode b_m_book 101 = .ok (.iconst 0, 1) := by decide +kernel
theorem z_m_book_102 : decode b_m_book 102 = .ok (.istore 5, 2) := by decide +kernel
theorem z_m_book_104 : decode b_m_book 104 = .ok (.iload 5, 2) := by decide +kernel
theorem z_m_book_106 : decode b_m_book 106 = .ok (.aload_n 0, 1) := by decide +kernel
theorem z_m_book_107 : decode b_m_book 107 = .ok (.getfield 27, 3) := by decide +kernel
theorem z_m_book_110 : decode b_m_book 110 = .ok (.iload 4, 2) := by decide +kernel
theorem z_m_book_112 : decode b_m_book 112 = .ok (.iaload, 1) := by decide +kernel
theorem z_m_book_113 : decode b_m_book 113 = .ok (.if_icmp .ge 27, 3) := by decide +kernel
theorem z_m_book_116 : decode b_m_book 116 = .ok (.iload_n 1, 1) := by decide +kernel
theorem z_m_book_117 : decode b_m_book 117 = .ok (.aload_n 0, 1) := by decide +kernel
theorem z_m_book_118 : decode b_m_book 118 = .ok (.getfield 30, 3) := by decide +kernel
theorem z_m_book_121 : decode b_m_book 121 = .ok (.bipush 16, 2) := by decide +kernel
theorem z_m_book_123 : decode b_m_book 123 = .ok (.iload 4, 2) := by decide +kernel
theorem z_m_book_125 : decode b_m_book 125 = .ok (.imul, 1) := by decide +kernel
theorem z_m_book_126 : decode b_m_book 126 = .ok (.iload 5, 2) := by decide +kernel
theorem z_m_book_128 : decode b_m_book 128 = .ok (.iadd, 1) := by decide +kernel
theorem z_m_book_129 : decode b_m_book 129 = .ok (.iaload, 1) := by decide +kernel
theorem z_m_book_130 : decode b_m_book 130 = .ok (.invokestatic 135, 3) := by decide +kernel
theorem z_m_book_133 : decode b_m_book 133 = .ok (.istore_n 1, 1) := by decide +kernel
theorem z_m_book_134 : decode b_m_book 134 = .ok (.iinc 5 1, 3) := by decide +kernel
theorem z_m_book_137 : decode b_m_book 137 = .ok (.goto (-33), 3) := by decide +kernel
theorem z_m_book_140 : decode b_m_book 140 = .ok (.iinc 3 1, 3) := by decide +kernel
theorem z_m_book_143 : decode b_m_book 143 = .ok (.goto (-101), 3) := by decide +kernel
theorem z_m_book_146 : decode b_m_book 146 = .ok (.iinc 2 1, 3) := by decide +kernel
theorem z_m_book_149 : decode b_m_book 149 = .ok (.goto (-126), 3) := by decide +kernel
theorem z_m_book_152 : decode b_m_book 152 = .ok (.iconst 0, 1) := by decide +kernel
theorem z_m_book_153 : decode b_m_book 153 = .ok (.istore_n 2, 1) := by decide +kernel
theorem z_m_book_154 : decode b_m_book 154 = .ok (.iload_n 2, 1) := by decide +kernel
theorem z_m_book_155 : decode b_m_book 155 = .ok (.iconst 5, 1) := by decide +kernel
theorem z_m_book_156 : decode b_m_book 156 = .ok (.aload_n 0, 1) := by decide +kernel
theorem z_m_book_157 : decode b_m_book 157 = .ok (.getfield 110, 3) := by decide +kernel
theorem z_m_book_160 : decode b_m_book 160 = .ok (.imul, 1) := by decide +kernel
theorem z_m_book_161 : decode b_m_book 161 = .ok (.if_icmp .ge 20, 3) := by decide +kernel
theorem z_m_book_164 : decode b_m_book 164 = .ok (.iload_n 1, 1) := by decide +kernel
theorem z_m_book_165 : decode b_m_book 165 = .ok (.aload_n 0, 1) := by decide +kernel
theorem z_m_book_166 : decode b_m_book 166 = .ok (.getfield 42, 3) := by decide +kernel
theorem z_m_book_169 : decode b_m_book 169 = .ok (.iload_n 2, 1) := by decide +kernel
theorem z_m_book_170 : decode b_m_book 170 = .ok (.iaload, 1) := by decide +kernel
theorem z_m_book_171 : decode b_m_book 171 = .ok (.invokestatic 135, 3) := by decide +kernel
theorem z_m_book_174 : decode b_m_book 174 = .ok (.istore_n 1, 1) := by decide +kernel
theorem z_m_book_175 : decode b_m_book 175 = .ok (.iinc 2 1, 3) := by decide +kernel
theorem z_m_book_178 : decode b_m_book 178 = .ok (.goto (-24), 3) := by decide +kernel
theorem z_m_book_181 : decode b_m_book 181 = .ok (.iload_n 1, 1) := by decide +kernel
theorem z_m_book_182 : decode b_m_book 182 = .ok (.ireturn, 1) := by decide +kernel
theorem z_m_with_0 : decode b_m_with 0 = .ok (.iload_n 0, 1) := by decide +kernel
theorem z_m_with_1 : decode b_m_with 1 = .ok (.iload_n 1, 1) := by decide +kernel
theorem z_m_with_2 : decode b_m_with 2 = .ok (.ixor, 1) := by decide +kernel
theorem z_m_with_3 : decode b_m_with 3 = .ok (.istore_n 2, 1) := by decide +kernel
theorem z_m_with_4 : decode b_m_with 4 = .ok (.iload_n 2, 1) := by decide +kernel
theorem z_m_with_5 : decode b_m_with 5 = .ok (.iconst 5, 1) := by decide +kernel
theorem z_m_with_6 : decode b_m_with 6 = .ok (.ishl, 1) := by decide +kernel
theorem z_m_with_7 : decode b_m_with 7 = .ok (.iload_n 2, 1) := by decide +kernel
theorem z_m_with_8 : decode b_m_with 8 = .ok (.bipush 27, 2) := by decide +kernel
theorem z_m_with_10 : decode b_m_with 10 = .ok (.iushr, 1) := by decide +kernel
theorem z_m_with_11 : decode b_m_with 11 = .ok (.ior, 1) := by decide +kernel
theorem z_m_with_12 : decode b_m_with 12 = .ok (.ldc 134, 2) := by decide +kernel
theorem z_m_with_14 : decode b_m_with 14 = .ok (.imul, 1) := by decide +kernel
theorem z_m_with_15 : decode b_m_with 15 = .ok (.ireturn, 1) := by decide +kernel
theorem z_L_under_0 : decode b_L_under 0 = .ok (.aload_n 0, 1) := by decide +kernel
theorem z_L_under_1 : decode b_L_under 1 = .ok (.iload_n 1, 1) := by decide +kernel
theorem z_L_under_2 : decode b_L_under 2 = .ok (.iload_n 2, 1) := by decide +kernel
theorem z_L_under_3 : decode b_L_under 3 = .ok (.invokevirtual 7, 3) := by decide +kernel
theorem z_L_under_6 : decode b_L_under 6 = .ok (.goto 9, 3) := by decide +kernel
theorem z_L_under_9 : decode b_L_under 9 = .ok (.astore_n 3, 1) := by decide +kernel
theorem z_L_under_10 : decode b_L_under 10 = .ok (.iconst 1, 1) := by decide +kernel
theorem z_L_under_11 : decode b_L_under 11 = .ok (.ireturn, 1) := by decide +kernel
theorem z_L_under_12 : decode b_L_under 12 = .ok (.astore_n 3, 1) := by decide +kernel
theorem z_L_under_13 : decode b_L_under 13 = .ok (.iconst 2, 1) := by decide +kernel
theorem z_L_under_14 : decode b_L_under 14 = .ok (.ireturn, 1) := by decide +kernel
theorem z_L_under_15 : decode b_L_under 15 = .ok (.iconst 0, 1) := by decide +kernel
theorem z_L_under_16 : decode b_L_under 16 = .ok (.ireturn, 1) := by decide +kernel
theorem z_L_make_0 : decode b_L_make 0 = .ok (.aload_n 3, 1) := by decide +kernel
theorem z_L_make_1 : decode b_L_make 1 = .ok (.iconst 0, 1) := by decide +kernel
theorem z_L_make_2 : decode b_L_make 2 = .ok (.aload_n 0, 1) := by decide +kernel
theorem z_L_make_3 : decode b_L_make 3 = .ok (.iload_n 1, 1) := by decide +kernel
theorem z_L_make_4 : decode b_L_make 4 = .ok (.iload_n 2, 1) := by decide +kernel
theorem z_L_make_5 : decode b_L_make 5 = .ok (.invokevirtual 17, 3) := by decide +kernel
theorem z_L_make_8 : decode b_L_make 8 = .ok (.i2l, 1) := by decide +kernel
theorem z_L_make_9 : decode b_L_make 9 = .ok (.lastore, 1) := by decide +kernel
theorem z_L_make_10 : decode b_L_make 10 = .ok (.goto 15, 3) := by decide +kernel
theorem z_L_make_13 : decode b_L_make 13 = .ok (.astore 4, 2) := by decide +kernel
theorem z_L_make_15 : decode b_L_make 15 = .ok (.iconst 1, 1) := by decide +kernel
theorem z_L_make_16 : decode b_L_make 16 = .ok (.ireturn, 1) := by decide +kernel
theorem z_L_make_17 : decode b_L_make 17 = .ok (.astore 4, 2) := by decide +kernel
theorem z_L_make_19 : decode b_L_make 19 = .ok (.iconst 2, 1) := by decide +kernel
theorem z_L_make_20 : decode b_L_make 20 = .ok (.ireturn, 1) := by decide +kernel
theorem z_L_make_21 : decode b_L_make 21 = .ok (.astore 4, 2) := by decide +kernel
theorem z_L_make_23 : decode b_L_make 23 = .ok (.iconst 3, 1) := by decide +kernel
theorem z_L_make_24 : decode b_L_make 24 = .ok (.ireturn, 1) := by decide +kernel
theorem z_L_make_25 : decode b_L_make 25 = .ok (.iconst 0, 1) := by decide +kernel
theorem z_L_make_26 : decode b_L_make 26 = .ok (.ireturn, 1) := by decide +kernel
theorem z_L_verb_0 : decode b_L_verb 0 = .ok (.aload_n 0, 1) := by decide +kernel
theorem z_L_verb_1 : decode b_L_verb 1 = .ok (.iload_n 1, 1) := by decide +kernel
theorem z_L_verb_2 : decode b_L_verb 2 = .ok (.iload_n 2, 1) := by decide +kernel
theorem z_L_verb_3 : decode b_L_verb 3 = .ok (.iload_n 3, 1) := by decide +kernel
theorem z_L_verb_4 : decode b_L_verb 4 = .ok (.iload 4, 2) := by decide +kernel
theorem z_L_verb_6 : decode b_L_verb 6 = .ok (.iload 5, 2) := by decide +kernel
theorem z_L_verb_8 : decode b_L_verb 8 = .ok (.invokevirtual 23, 3) := by decide +kernel
theorem z_L_verb_11 : decode b_L_verb 11 = .ok (.goto 11, 3) := by decide +kernel
theorem z_L_verb_14 : decode b_L_verb 14 = .ok (.astore 6, 2) := by decide +kernel
theorem z_L_verb_16 : decode b_L_verb 16 = .ok (.iconst 1, 1) := by decide +kernel
theorem z_L_verb_17 : decode b_L_verb 17 = .ok (.ireturn, 1) := by decide +kernel
theorem z_L_verb_18 : decode b_L_verb 18 = .ok (.astore 6, 2) := by decide +kernel
theorem z_L_verb_20 : decode b_L_verb 20 = .ok (.iconst 2, 1) := by decide +kernel
theorem z_L_verb_21 : decode b_L_verb 21 = .ok (.ireturn, 1) := by decide +kernel
theorem z_L_verb_22 : decode b_L_verb 22 = .ok (.iconst 0, 1) := by decide +kernel
theorem z_L_verb_23 : decode b_L_verb 23 = .ok (.ireturn, 1) := by decide +kernel
theorem z_L_call_0 : decode b_L_call 0 = .ok (.aload 5, 2) := by decide +kernel
theorem z_L_call_2 : decode b_L_call 2 = .ok (.iconst 0, 1) := by decide +kernel
theorem z_L_call_3 : decode b_L_call 3 = .ok (.aload_n 0, 1) := by decide +kernel
theorem z_L_call_4 : decode b_L_call 4 = .ok (.iload_n 1, 1) := by decide +kernel
theorem z_L_call_5 : decode b_L_call 5 = .ok (.iload_n 2, 1) := by decide +kernel
theorem z_L_call_6 : decode b_L_call 6 = .ok (.iload_n 3, 1) := by decide +kernel
theorem z_L_call_7 : decode b_L_call 7 = .ok (.iload 4, 2) := by decide +kernel
theorem z_L_call_9 : decode b_L_call 9 = .ok (.invokevirtual 29, 3) := by decide +kernel
theorem z_L_call_12 : decode b_L_call 12 = .ok (.lastore, 1) := by decide +kernel
theorem z_L_call_13 : decode b_L_call 13 = .ok (.goto 15, 3) := by decide +kernel
theorem z_L_call_16 : decode b_L_call 16 = .ok (.astore 6, 2) := by decide +kernel
theorem z_L_call_18 : decode b_L_call 18 = .ok (.iconst 1, 1) := by decide +kernel
theorem z_L_call_19 : decode b_L_call 19 = .ok (.ireturn, 1) := by decide +kernel
theorem z_L_call_20 : decode b_L_call 20 = .ok (.astore 6, 2) := by decide +kernel
theorem z_L_call_22 : decode b_L_call 22 = .ok (.iconst 2, 1) := by decide +kernel
theorem z_L_call_23 : decode b_L_call 23 = .ok (.ireturn, 1) := by decide +kernel
theorem z_L_call_24 : decode b_L_call 24 = .ok (.astore 6, 2) := by decide +kernel
theorem z_L_call_26 : decode b_L_call 26 = .ok (.iconst 3, 1) := by decide +kernel
theorem z_L_call_27 : decode b_L_call 27 = .ok (.ireturn, 1) := by decide +kernel
theorem z_L_call_28 : decode b_L_call 28 = .ok (.iconst 0, 1) := by decide +kernel
theorem z_L_call_29 : decode b_L_call 29 = .ok (.ireturn, 1) := by decide +kernel
theorem z_L_simulate_0 : decode b_L_simulate 0 = .ok (.aload 5, 2) := by decide +kernel
theorem z_L_simulate_2 : decode b_L_simulate 2 = .ok (.iconst 0, 1) := by decide +kernel
theorem z_L_simulate_3 : decode b_L_simulate 3 = .ok (.aload_n 0, 1) := by decide +kernel
theorem z_L_simulate_4 : decode b_L_simulate 4 = .ok (.iload_n 1, 1) := by decide +kernel
theorem z_L_simulate_5 : decode b_L_simulate 5 = .ok (.iload_n 2, 1) := by decide +kernel
theorem z_L_simulate_6 : decode b_L_simulate 6 = .ok (.iload_n 3, 1) := by decide +kernel
theorem z_L_simulate_7 : decode b_L_simulate 7 = .ok (.iload 4, 2) := by decide +kernel
theorem z_L_simulate_9 : decode b_L_simulate 9 = .ok (.invokevirtual 33, 3) := by decide +kernel
theorem z_L_simulate_12 : decode b_L_simulate 12 = .ok (.lastore, 1) := by decide +kernel
theorem z_L_simulate_13 : decode b_L_simulate 13 = .ok (.goto 15, 3) := by decide +kernel
theorem z_L_simulate_16 : decode b_L_simulate 16 = .ok (.astore 6, 2) := by decide +kernel
theorem z_L_simulate_18 : decode b_L_simulate 18 = .ok (.iconst 1, 1) := by decide +kernel
theorem z_L_simulate_19 : decode b_L_simulate 19 = .ok (.ireturn, 1) := by decide +kernel
theorem z_L_simulate_20 : decode b_L_simulate 20 = .ok (.astore 6, 2) := by decide +kernel
theorem z_L_simulate_22 : decode b_L_simulate 22 = .ok (.iconst 2, 1) := by decide +kernel
theorem z_L_simulate_23 : decode b_L_simulate 23 = .ok (.ireturn, 1) := by decide +kernel
theorem z_L_simulate_24 : decode b_L_simulate 24 = .ok (.astore 6, 2) := by decide +kernel
theorem z_L_simulate_26 : decode b_L_simulate 26 = .ok (.iconst 3, 1) := by decide +kernel
theorem z_L_simulate_27 : decode b_L_simulate 27 = .ok (.ireturn, 1) := by decide +kernel
theorem z_L_simulate_28 : decode b_L_simulate 28 = .ok (.iconst 0, 1) := by decide +kernel
theorem z_L_simulate_29 : decode b_L_simulate 29 = .ok (.ireturn, 1) := by decide +kernel
theorem z_L_text_0 : decode b_L_text 0 = .ok (.aload 6, 2) := by decide +kernel
theorem z_L_text_2 : decode b_L_text 2 = .ok (.iconst 0, 1) := by decide +kernel
theorem z_L_text_3 : decode b_L_text 3 = .ok (.aload_n 0, 1) := by decide +kernel
theorem z_L_text_4 : decode b_L_text 4 = .ok (.iload_n 1, 1) := by decide +kernel
theorem z_L_text_5 : decode b_L_text 5 = .ok (.iload_n 2, 1) := by decide +kernel
theorem z_L_text_6 : decode b_L_text 6 = .ok (.lload_n 3, 1) := by decide +kernel
theorem z_L_text_7 : decode b_L_text 7 = .ok (.iload 5, 2) := by decide +kernel
theorem z_L_text_9 : decode b_L_text 9 = .ok (.invokevirtual 36, 3) := by decide +kernel
theorem z_L_text_12 : decode b_L_text 12 = .ok (.i2l, 1) := by decide +kernel
theorem z_L_text_13 : decode b_L_text 13 = .ok (.lastore, 1) := by decide +kernel
theorem z_L_text_14 : decode b_L_text 14 = .ok (.goto 19, 3) := by decide +kernel
theorem z_L_text_17 : decode b_L_text 17 = .ok (.astore 7, 2) := by decide +kernel
theorem z_L_text_19 : decode b_L_text 19 = .ok (.iconst 1, 1) := by decide +kernel
theorem z_L_text_20 : decode b_L_text 20 = .ok (.ireturn, 1) := by decide +kernel
theorem z_L_text_21 : decode b_L_text 21 = .ok (.astore 7, 2) := by decide +kernel
theorem z_L_text_23 : decode b_L_text 23 = .ok (.iconst 2, 1) := by decide +kernel
theorem z_L_text_24 : decode b_L_text 24 = .ok (.ireturn, 1) := by decide +kernel
theorem z_L_text_25 : decode b_L_text 25 = .ok (.astore 7, 2) := by decide +kernel
theorem z_L_text_27 : decode b_L_text 27 = .ok (.iconst 3, 1) := by decide +kernel
theorem z_L_text_28 : decode b_L_text 28 = .ok (.ireturn, 1) := by decide +kernel
theorem z_L_text_29 : decode b_L_text 29 = .ok (.astore 7, 2) := by decide +kernel
theorem z_L_text_31 : decode b_L_text 31 = .ok (.iconst 4, 1) := by decide +kernel
theorem z_L_text_32 : decode b_L_text 32 = .ok (.ireturn, 1) := by decide +kernel
theorem z_L_text_33 : decode b_L_text 33 = .ok (.iconst 0, 1) := by decide +kernel
theorem z_L_text_34 : decode b_L_text 34 = .ok (.ireturn, 1) := by decide +kernel
theorem z_L_textAt_0 : decode b_L_textAt 0 = .ok (.aload 4, 2) := by decide +kernel
theorem z_L_textAt_2 : decode b_L_textAt 2 = .ok (.iconst 0, 1) := by decide +kernel
theorem z_L_textAt_3 : decode b_L_textAt 3 = .ok (.aload_n 0, 1) := by decide +kernel
theorem z_L_textAt_4 : decode b_L_textAt 4 = .ok (.iload_n 1, 1) := by decide +kernel
theorem z_L_textAt_5 : decode b_L_textAt 5 = .ok (.iload_n 2, 1) := by decide +kernel
theorem z_L_textAt_6 : decode b_L_textAt 6 = .ok (.iload_n 3, 1) := by decide +kernel
theorem z_L_textAt_7 : decode b_L_textAt 7 = .ok (.invokevirtual 40, 3) := by decide +kernel
theorem z_L_textAt_10 : decode b_L_textAt 10 = .ok (.i2l, 1) := by decide +kernel
theorem z_L_textAt_11 : decode b_L_textAt 11 = .ok (.lastore, 1) := by decide +kernel
theorem z_L_textAt_12 : decode b_L_textAt 12 = .ok (.goto 11, 3) := by decide +kernel
theorem z_L_textAt_15 : decode b_L_textAt 15 = .ok (.astore 5, 2) := by decide +kernel
theorem z_L_textAt_17 : decode b_L_textAt 17 = .ok (.iconst 1, 1) := by decide +kernel
theorem z_L_textAt_18 : decode b_L_textAt 18 = .ok (.ireturn, 1) := by decide +kernel
theorem z_L_textAt_19 : decode b_L_textAt 19 = .ok (.astore 5, 2) := by decide +kernel
theorem z_L_textAt_21 : decode b_L_textAt 21 = .ok (.iconst 2, 1) := by decide +kernel
theorem z_L_textAt_22 : decode b_L_textAt 22 = .ok (.ireturn, 1) := by decide +kernel
theorem z_L_textAt_23 : decode b_L_textAt 23 = .ok (.iconst 0, 1) := by decide +kernel
theorem z_L_textAt_24 : decode b_L_textAt 24 = .ok (.ireturn, 1) := by decide +kernel
theorem z_L_find_0 : decode b_L_find 0 = .ok (.aload 5, 2) := by decide +kernel
theorem z_L_find_2 : decode b_L_find 2 = .ok (.iconst 0, 1) := by decide +kernel
theorem z_L_find_3 : decode b_L_find 3 = .ok (.aload_n 0, 1) := by decide +kernel
theorem z_L_find_4 : decode b_L_find 4 = .ok (.iload_n 1, 1) := by decide +kernel
theorem z_L_find_5 : decode b_L_find 5 = .ok (.lload_n 2, 1) := by decide +kernel
theorem z_L_find_6 : decode b_L_find 6 = .ok (.iload 4, 2) := by decide +kernel
theorem z_L_find_8 : decode b_L_find 8 = .ok (.invokevirtual 44, 3) := by decide +kernel
theorem z_L_find_11 : decode b_L_find 11 = .ok (.i2l, 1) := by decide +kernel
theorem z_L_find_12 : decode b_L_find 12 = .ok (.lastore, 1) := by decide +kernel
theorem z_L_find_13 : decode b_L_find 13 = .ok (.goto 11, 3) := by decide +kernel
theorem z_L_find_16 : decode b_L_find 16 = .ok (.astore 6, 2) := by decide +kernel
theorem z_L_find_18 : decode b_L_find 18 = .ok (.iconst 1, 1) := by decide +kernel
theorem z_L_find_19 : decode b_L_find 19 = .ok (.ireturn, 1) := by decide +kernel
theorem z_L_find_20 : decode b_L_find 20 = .ok (.astore 6, 2) := by decide +kernel
theorem z_L_find_22 : decode b_L_find 22 = .ok (.iconst 2, 1) := by decide +kernel
theorem z_L_find_23 : decode b_L_find 23 = .ok (.ireturn, 1) := by decide +kernel
theorem z_L_find_24 : decode b_L_find 24 = .ok (.iconst 0, 1) := by decide +kernel
theorem z_L_find_25 : decode b_L_find 25 = .ok (.ireturn, 1) := by decide +kernel
theorem z_L_subject_0 : decode b_L_subject 0 = .ok (.aload 4, 2) := by decide +kernel
theorem z_L_subject_2 : decode b_L_subject 2 = .ok (.iconst 0, 1) := by decide +kernel
theorem z_L_subject_3 : decode b_L_subject 3 = .ok (.aload_n 0, 1) := by decide +kernel
theorem z_L_subject_4 : decode b_L_subject 4 = .ok (.iload_n 1, 1) := by decide +kernel
theorem z_L_subject_5 : decode b_L_subject 5 = .ok (.iload_n 2, 1) := by decide +kernel
theorem z_L_subject_6 : decode b_L_subject 6 = .ok (.iload_n 3, 1) := by decide +kernel
theorem z_L_subject_7 : decode b_L_subject 7 = .ok (.invokevirtual 48, 3) := by decide +kernel
theorem z_L_subject_10 : decode b_L_subject 10 = .ok (.i2l, 1) := by decide +kernel
theorem z_L_subject_11 : decode b_L_subject 11 = .ok (.lastore, 1) := by decide +kernel
theorem z_L_subject_12 : decode b_L_subject 12 = .ok (.goto 7, 3) := by decide +kernel
theorem z_L_subject_15 : decode b_L_subject 15 = .ok (.astore 5, 2) := by decide +kernel
theorem z_L_subject_17 : decode b_L_subject 17 = .ok (.iconst 1, 1) := by decide +kernel
theorem z_L_subject_18 : decode b_L_subject 18 = .ok (.ireturn, 1) := by decide +kernel
theorem z_L_subject_19 : decode b_L_subject 19 = .ok (.iconst 0, 1) := by decide +kernel
theorem z_L_subject_20 : decode b_L_subject 20 = .ok (.ireturn, 1) := by decide +kernel
theorem z_L_row_0 : decode b_L_row 0 = .ok (.aload_n 3, 1) := by decide +kernel
theorem z_L_row_1 : decode b_L_row 1 = .ok (.iconst 0, 1) := by decide +kernel
theorem z_L_row_2 : decode b_L_row 2 = .ok (.aload_n 0, 1) := by decide +kernel
theorem z_L_row_3 : decode b_L_row 3 = .ok (.iload_n 1, 1) := by decide +kernel
theorem z_L_row_4 : decode b_L_row 4 = .ok (.iload_n 2, 1) := by decide +kernel
theorem z_L_row_5 : decode b_L_row 5 = .ok (.invokevirtual 51, 3) := by decide +kernel
theorem z_L_row_8 : decode b_L_row 8 = .ok (.i2l, 1) := by decide +kernel
theorem z_L_row_9 : decode b_L_row 9 = .ok (.lastore, 1) := by decide +kernel
theorem z_L_row_10 : decode b_L_row 10 = .ok (.goto 7, 3) := by decide +kernel
theorem z_L_row_13 : decode b_L_row 13 = .ok (.astore 4, 2) := by decide +kernel
theorem z_L_row_15 : decode b_L_row 15 = .ok (.iconst 1, 1) := by decide +kernel
theorem z_L_row_16 : decode b_L_row 16 = .ok (.ireturn, 1) := by decide +kernel
theorem z_L_row_17 : decode b_L_row 17 = .ok (.iconst 0, 1) := by decide +kernel
theorem z_L_row_18 : decode b_L_row 18 = .ok (.ireturn, 1) := by decide +kernel
theorem z_L_tick_0 : decode b_L_tick 0 = .ok (.aload_n 2, 1) := by decide +kernel
theorem z_L_tick_1 : decode b_L_tick 1 = .ok (.iconst 0, 1) := by decide +kernel
theorem z_L_tick_2 : decode b_L_tick 2 = .ok (.aload_n 0, 1) := by decide +kernel
theorem z_L_tick_3 : decode b_L_tick 3 = .ok (.iload_n 1, 1) := by decide +kernel
theorem z_L_tick_4 : decode b_L_tick 4 = .ok (.invokevirtual 54, 3) := by decide +kernel
theorem z_L_tick_7 : decode b_L_tick 7 = .ok (.i2l, 1) := by decide +kernel
theorem z_L_tick_8 : decode b_L_tick 8 = .ok (.lastore, 1) := by decide +kernel
theorem z_L_tick_9 : decode b_L_tick 9 = .ok (.goto 6, 3) := by decide +kernel
theorem z_L_tick_12 : decode b_L_tick 12 = .ok (.astore_n 3, 1) := by decide +kernel
theorem z_L_tick_13 : decode b_L_tick 13 = .ok (.iconst 1, 1) := by decide +kernel
theorem z_L_tick_14 : decode b_L_tick 14 = .ok (.ireturn, 1) := by decide +kernel
theorem z_L_tick_15 : decode b_L_tick 15 = .ok (.iconst 0, 1) := by decide +kernel
theorem z_L_tick_16 : decode b_L_tick 16 = .ok (.ireturn, 1) := by decide +kernel
theorem z_L_count_0 : decode b_L_count 0 = .ok (.aload_n 2, 1) := by decide +kernel
theorem z_L_count_1 : decode b_L_count 1 = .ok (.iconst 0, 1) := by decide +kernel
theorem z_L_count_2 : decode b_L_count 2 = .ok (.aload_n 0, 1) := by decide +kernel
theorem z_L_count_3 : decode b_L_count 3 = .ok (.iload_n 1, 1) := by decide +kernel
theorem z_L_count_4 : decode b_L_count 4 = .ok (.invokevirtual 58, 3) := by decide +kernel
theorem z_L_count_7 : decode b_L_count 7 = .ok (.i2l, 1) := by decide +kernel
theorem z_L_count_8 : decode b_L_count 8 = .ok (.lastore, 1) := by decide +kernel
theorem z_L_count_9 : decode b_L_count 9 = .ok (.goto 6, 3) := by decide +kernel
theorem z_L_count_12 : decode b_L_count 12 = .ok (.astore_n 3, 1) := by decide +kernel
theorem z_L_count_13 : decode b_L_count 13 = .ok (.iconst 1, 1) := by decide +kernel
theorem z_L_count_14 : decode b_L_count 14 = .ok (.ireturn, 1) := by decide +kernel
theorem z_L_count_15 : decode b_L_count 15 = .ok (.iconst 0, 1) := by decide +kernel
theorem z_L_count_16 : decode b_L_count 16 = .ok (.ireturn, 1) := by decide +kernel
