theorem nd_GM_halt_10 : decode nc_GM_halt 10 = .ok (.iconst 2, 1) := by decide +kernel
theorem nd_GM_halt_11 : decode nc_GM_halt 11 = .ok (.iastore, 1) := by decide +kernel
theorem nd_GM_halt_12 : decode nc_GM_halt 12 = .ok (.return_, 1) := by decide +kernel
theorem nd_GM_openWords_0 : decode nc_GM_openWords 0 = .ok (.aload_n 0, 1) := by decide +kernel
theorem nd_GM_openWords_1 : decode nc_GM_openWords 1 = .ok (.getfield 29, 3) := by decide +kernel
theorem nd_GM_openWords_4 : decode nc_GM_openWords 4 = .ok (.iload_n 1, 1) := by decide +kernel
theorem nd_GM_openWords_5 : decode nc_GM_openWords 5 = .ok (.iaload, 1) := by decide +kernel
theorem nd_GM_openWords_6 : decode nc_GM_openWords 6 = .ok (.bipush 8, 2) := by decide +kernel
theorem nd_GM_openWords_8 : decode nc_GM_openWords 8 = .ok (.idiv, 1) := by decide +kernel
theorem nd_GM_openWords_9 : decode nc_GM_openWords 9 = .ok (.istore_n 3, 1) := by decide +kernel
theorem nd_GM_openWords_10 : decode nc_GM_openWords 10 = .ok (.aload_n 0, 1) := by decide +kernel
theorem nd_GM_openWords_11 : decode nc_GM_openWords 11 = .ok (.getfield 29, 3) := by decide +kernel
theorem nd_GM_openWords_14 : decode nc_GM_openWords 14 = .ok (.iload_n 1, 1) := by decide +kernel
theorem nd_GM_openWords_15 : decode nc_GM_openWords 15 = .ok (.iaload, 1) := by decide +kernel
theorem nd_GM_openWords_16 : decode nc_GM_openWords 16 = .ok (.iload_n 2, 1) := by decide +kernel
theorem nd_GM_openWords_17 : decode nc_GM_openWords 17 = .ok (.isub, 1) := by decide +kernel
theorem nd_GM_openWords_18 : decode nc_GM_openWords 18 = .ok (.iload_n 3, 1) := by decide +kernel
theorem nd_GM_openWords_19 : decode nc_GM_openWords 19 = .ok (.idiv, 1) := by decide +kernel
theorem nd_GM_openWords_20 : decode nc_GM_openWords 20 = .ok (.iload_n 3, 1) := by decide +kernel
theorem nd_GM_openWords_21 : decode nc_GM_openWords 21 = .ok (.imul, 1) := by decide +kernel
theorem nd_GM_openWords_22 : decode nc_GM_openWords 22 = .ok (.ireturn, 1) := by decide +kernel
theorem nd_GM_granted_0 : decode nc_GM_granted 0 = .ok (.iconst 0, 1) := by decide +kernel
theorem nd_GM_granted_1 : decode nc_GM_granted 1 = .ok (.istore_n 2, 1) := by decide +kernel
theorem nd_GM_granted_2 : decode nc_GM_granted 2 = .ok (.iconst 0, 1) := by decide +kernel
theorem nd_GM_granted_3 : decode nc_GM_granted 3 = .ok (.istore_n 3, 1) := by decide +kernel
theorem nd_GM_granted_4 : decode nc_GM_granted 4 = .ok (.iload_n 3, 1) := by decide +kernel
theorem nd_GM_granted_5 : decode nc_GM_granted 5 = .ok (.iconst 3, 1) := by decide +kernel
theorem nd_GM_granted_6 : decode nc_GM_granted 6 = .ok (.if_icmp .ge 30, 3) := by decide +kernel
theorem nd_GM_granted_9 : decode nc_GM_granted 9 = .ok (.iload_n 2, 1) := by decide +kernel
theorem nd_GM_granted_10 : decode nc_GM_granted 10 = .ok (.aload_n 0, 1) := by decide +kernel
theorem nd_GM_granted_11 : decode nc_GM_granted 11 = .ok (.getfield 72, 3) := by decide +kernel
theorem nd_GM_granted_14 : decode nc_GM_granted 14 = .ok (.iconst 3, 1) := by decide +kernel
theorem nd_GM_granted_15 : decode nc_GM_granted 15 = .ok (.iload_n 1, 1) := by decide +kernel
theorem nd_GM_granted_16 : decode nc_GM_granted 16 = .ok (.imul, 1) := by decide +kernel
theorem nd_GM_granted_17 : decode nc_GM_granted 17 = .ok (.iload_n 3, 1) := by decide +kernel
theorem nd_GM_granted_18 : decode nc_GM_granted 18 = .ok (.iadd, 1) := by decide +kernel
theorem nd_GM_granted_19 : decode nc_GM_granted 19 = .ok (.iaload, 1) := by decide +kernel
theorem nd_GM_granted_20 : decode nc_GM_granted 20 = .ok (.ifCond .le 7, 3) := by decide +kernel
theorem nd_GM_granted_23 : decode nc_GM_granted 23 = .ok (.iconst 2, 1) := by decide +kernel
theorem nd_GM_granted_24 : decode nc_GM_granted 24 = .ok (.goto 4, 3) := by decide +kernel
theorem nd_GM_granted_27 : decode nc_GM_granted 27 = .ok (.iconst 0, 1) := by decide +kernel
theorem nd_GM_granted_28 : decode nc_GM_granted 28 = .ok (.iadd, 1) := by decide +kernel
theorem nd_GM_granted_29 : decode nc_GM_granted 29 = .ok (.istore_n 2, 1) := by decide +kernel
theorem nd_GM_granted_30 : decode nc_GM_granted 30 = .ok (.iinc 3 1, 3) := by decide +kernel
theorem nd_GM_granted_33 : decode nc_GM_granted 33 = .ok (.goto (-29), 3) := by decide +kernel
theorem nd_GM_granted_36 : decode nc_GM_granted 36 = .ok (.iload_n 2, 1) := by decide +kernel
theorem nd_GM_granted_37 : decode nc_GM_granted 37 = .ok (.ireturn, 1) := by decide +kernel
theorem nd_GM_within_0 : decode nc_GM_within 0 = .ok (.sipush 4096, 3) := by decide +kernel
theorem nd_GM_within_3 : decode nc_GM_within 3 = .ok (.iconst 4, 1) := by decide +kernel
theorem nd_GM_within_4 : decode nc_GM_within 4 = .ok (.aload_n 0, 1) := by decide +kernel
theorem nd_GM_within_5 : decode nc_GM_within 5 = .ok (.getfield 26, 3) := by decide +kernel
theorem nd_GM_within_8 : decode nc_GM_within 8 = .ok (.iload_n 1, 1) := by decide +kernel
theorem nd_GM_within_9 : decode nc_GM_within 9 = .ok (.iaload, 1) := by decide +kernel
theorem nd_GM_within_10 : decode nc_GM_within 10 = .ok (.imul, 1) := by decide +kernel
theorem nd_GM_within_11 : decode nc_GM_within 11 = .ok (.iadd, 1) := by decide +kernel
theorem nd_GM_within_12 : decode nc_GM_within 12 = .ok (.istore 4, 2) := by decide +kernel
theorem nd_GM_within_14 : decode nc_GM_within 14 = .ok (.iload_n 2, 1) := by decide +kernel
theorem nd_GM_within_15 : decode nc_GM_within 15 = .ok (.iconst 3, 1) := by decide +kernel
theorem nd_GM_within_16 : decode nc_GM_within 16 = .ok (.iand, 1) := by decide +kernel
theorem nd_GM_within_17 : decode nc_GM_within 17 = .ok (.ifCond .ne 23, 3) := by decide +kernel
theorem nd_GM_within_20 : decode nc_GM_within 20 = .ok (.iload_n 2, 1) := by decide +kernel
theorem nd_GM_within_21 : decode nc_GM_within 21 = .ok (.iload 4, 2) := by decide +kernel
theorem nd_GM_within_23 : decode nc_GM_within 23 = .ok (.if_icmp .lt 17, 3) := by decide +kernel
theorem nd_GM_within_26 : decode nc_GM_within 26 = .ok (.iload_n 2, 1) := by decide +kernel
theorem nd_GM_within_27 : decode nc_GM_within 27 = .ok (.iload 4, 2) := by decide +kernel
theorem nd_GM_within_29 : decode nc_GM_within 29 = .ok (.iconst 4, 1) := by decide +kernel
theorem nd_GM_within_30 : decode nc_GM_within 30 = .ok (.iload_n 3, 1) := by decide +kernel
theorem nd_GM_within_31 : decode nc_GM_within 31 = .ok (.imul, 1) := by decide +kernel
theorem nd_GM_within_32 : decode nc_GM_within 32 = .ok (.iadd, 1) := by decide +kernel
theorem nd_GM_within_33 : decode nc_GM_within 33 = .ok (.if_icmp .ge 7, 3) := by decide +kernel
theorem nd_GM_within_36 : decode nc_GM_within 36 = .ok (.iconst 1, 1) := by decide +kernel
theorem nd_GM_within_37 : decode nc_GM_within 37 = .ok (.goto 4, 3) := by decide +kernel
theorem nd_GM_within_40 : decode nc_GM_within 40 = .ok (.iconst 0, 1) := by decide +kernel
theorem nd_GM_within_41 : decode nc_GM_within 41 = .ok (.ireturn, 1) := by decide +kernel
theorem nd_GM_isOpen_0 : decode nc_GM_isOpen 0 = .ok (.aload_n 0, 1) := by decide +kernel
theorem nd_GM_isOpen_1 : decode nc_GM_isOpen 1 = .ok (.iload_n 1, 1) := by decide +kernel
theorem nd_GM_isOpen_2 : decode nc_GM_isOpen 2 = .ok (.aload_n 0, 1) := by decide +kernel
theorem nd_GM_isOpen_3 : decode nc_GM_isOpen 3 = .ok (.iload_n 1, 1) := by decide +kernel
theorem nd_GM_isOpen_4 : decode nc_GM_isOpen 4 = .ok (.invokevirtual 142, 3) := by decide +kernel
theorem nd_GM_isOpen_7 : decode nc_GM_isOpen 7 = .ok (.invokevirtual 146, 3) := by decide +kernel
theorem nd_GM_isOpen_10 : decode nc_GM_isOpen 10 = .ok (.istore_n 3, 1) := by decide +kernel
theorem nd_GM_isOpen_11 : decode nc_GM_isOpen 11 = .ok (.aload_n 0, 1) := by decide +kernel
theorem nd_GM_isOpen_12 : decode nc_GM_isOpen 12 = .ok (.iload_n 1, 1) := by decide +kernel
theorem nd_GM_isOpen_13 : decode nc_GM_isOpen 13 = .ok (.iload_n 2, 1) := by decide +kernel
theorem nd_GM_isOpen_14 : decode nc_GM_isOpen 14 = .ok (.iload_n 3, 1) := by decide +kernel
theorem nd_GM_isOpen_15 : decode nc_GM_isOpen 15 = .ok (.invokevirtual 150, 3) := by decide +kernel
theorem nd_GM_isOpen_18 : decode nc_GM_isOpen 18 = .ok (.ireturn, 1) := by decide +kernel
theorem nd_GM_inCode_0 : decode nc_GM_inCode 0 = .ok (.iload_n 2, 1) := by decide +kernel
theorem nd_GM_inCode_1 : decode nc_GM_inCode 1 = .ok (.iconst 2, 1) := by decide +kernel
theorem nd_GM_inCode_2 : decode nc_GM_inCode 2 = .ok (.aload_n 0, 1) := by decide +kernel
theorem nd_GM_inCode_3 : decode nc_GM_inCode 3 = .ok (.getfield 20, 3) := by decide +kernel
theorem nd_GM_inCode_6 : decode nc_GM_inCode 6 = .ok (.iload_n 1, 1) := by decide +kernel
theorem nd_GM_inCode_7 : decode nc_GM_inCode 7 = .ok (.iaload, 1) := by decide +kernel
theorem nd_GM_inCode_8 : decode nc_GM_inCode 8 = .ok (.imul, 1) := by decide +kernel
theorem nd_GM_inCode_9 : decode nc_GM_inCode 9 = .ok (.if_icmp .lt 26, 3) := by decide +kernel
theorem nd_GM_inCode_12 : decode nc_GM_inCode 12 = .ok (.iload_n 2, 1) := by decide +kernel
theorem nd_GM_inCode_13 : decode nc_GM_inCode 13 = .ok (.iconst 2, 1) := by decide +kernel
theorem nd_GM_inCode_14 : decode nc_GM_inCode 14 = .ok (.aload_n 0, 1) := by decide +kernel
theorem nd_GM_inCode_15 : decode nc_GM_inCode 15 = .ok (.getfield 20, 3) := by decide +kernel
theorem nd_GM_inCode_18 : decode nc_GM_inCode 18 = .ok (.iload_n 1, 1) := by decide +kernel
theorem nd_GM_inCode_19 : decode nc_GM_inCode 19 = .ok (.iaload, 1) := by decide +kernel
theorem nd_GM_inCode_20 : decode nc_GM_inCode 20 = .ok (.aload_n 0, 1) := by decide +kernel
theorem nd_GM_inCode_21 : decode nc_GM_inCode 21 = .ok (.getfield 23, 3) := by decide +kernel
theorem nd_GM_inCode_24 : decode nc_GM_inCode 24 = .ok (.iload_n 1, 1) := by decide +kernel
theorem nd_GM_inCode_25 : decode nc_GM_inCode 25 = .ok (.iaload, 1) := by decide +kernel
theorem nd_GM_inCode_26 : decode nc_GM_inCode 26 = .ok (.iadd, 1) := by decide +kernel
theorem nd_GM_inCode_27 : decode nc_GM_inCode 27 = .ok (.imul, 1) := by decide +kernel
theorem nd_GM_inCode_28 : decode nc_GM_inCode 28 = .ok (.if_icmp .ge 7, 3) := by decide +kernel
theorem nd_GM_inCode_31 : decode nc_GM_inCode 31 = .ok (.iconst 1, 1) := by decide +kernel
theorem nd_GM_inCode_32 : decode nc_GM_inCode 32 = .ok (.goto 4, 3) := by decide +kernel
theorem nd_GM_inCode_35 : decode nc_GM_inCode 35 = .ok (.iconst 0, 1) := by decide +kernel
theorem nd_GM_inCode_36 : decode nc_GM_inCode 36 = .ok (.ireturn, 1) := by decide +kernel
theorem nd_GM_may_0 : decode nc_GM_may 0 = .ok (.iload_n 2, 1) := by decide +kernel
theorem nd_GM_may_1 : decode nc_GM_may 1 = .ok (.iconst 3, 1) := by decide +kernel
theorem nd_GM_may_2 : decode nc_GM_may 2 = .ok (.iand, 1) := by decide +kernel
theorem nd_GM_may_3 : decode nc_GM_may 3 = .ok (.ifCond .eq 7, 3) := by decide +kernel
theorem nd_GM_may_6 : decode nc_GM_may 6 = .ok (.iconst 3, 1) := by decide +kernel
theorem nd_GM_may_7 : decode nc_GM_may 7 = .ok (.goto 30, 3) := by decide +kernel
theorem nd_GM_may_10 : decode nc_GM_may 10 = .ok (.aload_n 0, 1) := by decide +kernel
theorem nd_GM_may_11 : decode nc_GM_may 11 = .ok (.iload_n 1, 1) := by decide +kernel
theorem nd_GM_may_12 : decode nc_GM_may 12 = .ok (.iload_n 2, 1) := by decide +kernel
theorem nd_GM_may_13 : decode nc_GM_may 13 = .ok (.invokevirtual 154, 3) := by decide +kernel
theorem nd_GM_may_16 : decode nc_GM_may 16 = .ok (.ifCond .ne 16, 3) := by decide +kernel
theorem nd_GM_may_19 : decode nc_GM_may 19 = .ok (.iload_n 3, 1) := by decide +kernel
theorem nd_GM_may_20 : decode nc_GM_may 20 = .ok (.ifCond .ne 16, 3) := by decide +kernel
theorem nd_GM_may_23 : decode nc_GM_may 23 = .ok (.aload_n 0, 1) := by decide +kernel
theorem nd_GM_may_24 : decode nc_GM_may 24 = .ok (.iload_n 1, 1) := by decide +kernel
theorem nd_GM_may_25 : decode nc_GM_may 25 = .ok (.iload_n 2, 1) := by decide +kernel
theorem nd_GM_may_26 : decode nc_GM_may 26 = .ok (.invokevirtual 158, 3) := by decide +kernel
theorem nd_GM_may_29 : decode nc_GM_may 29 = .ok (.ifCond .eq 7, 3) := by decide +kernel
theorem nd_GM_may_32 : decode nc_GM_may 32 = .ok (.iconst 0, 1) := by decide +kernel
theorem nd_GM_may_33 : decode nc_GM_may 33 = .ok (.goto 4, 3) := by decide +kernel
theorem nd_GM_may_36 : decode nc_GM_may 36 = .ok (.iconst 4, 1) := by decide +kernel
theorem nd_GM_may_37 : decode nc_GM_may 37 = .ok (.istore 4, 2) := by decide +kernel
theorem nd_GM_may_39 : decode nc_GM_may 39 = .ok (.aload_n 0, 1) := by decide +kernel
theorem nd_GM_may_40 : decode nc_GM_may 40 = .ok (.iload 4, 2) := by decide +kernel
theorem nd_GM_may_42 : decode nc_GM_may 42 = .ok (.ifCond .le 24, 3) := by decide +kernel
theorem nd_GM_may_45 : decode nc_GM_may 45 = .ok (.aload_n 0, 1) := by decide +kernel
theorem nd_GM_may_46 : decode nc_GM_may 46 = .ok (.getfield 161, 3) := by decide +kernel
theorem nd_GM_may_49 : decode nc_GM_may 49 = .ok (.ifCond .eq 12, 3) := by decide +kernel
theorem nd_GM_may_52 : decode nc_GM_may 52 = .ok (.iload 4, 2) := by decide +kernel
theorem nd_GM_may_54 : decode nc_GM_may 54 = .ok (.aload_n 0, 1) := by decide +kernel
theorem nd_GM_may_55 : decode nc_GM_may 55 = .ok (.getfield 161, 3) := by decide +kernel
theorem nd_GM_may_58 : decode nc_GM_may 58 = .ok (.if_icmp .ge 8, 3) := by decide +kernel
theorem nd_GM_may_61 : decode nc_GM_may 61 = .ok (.iload 4, 2) := by decide +kernel
theorem nd_GM_may_63 : decode nc_GM_may 63 = .ok (.goto 7, 3) := by decide +kernel
theorem nd_GM_may_66 : decode nc_GM_may 66 = .ok (.aload_n 0, 1) := by decide +kernel
theorem nd_GM_may_67 : decode nc_GM_may 67 = .ok (.getfield 161, 3) := by decide +kernel
theorem nd_GM_may_70 : decode nc_GM_may 70 = .ok (.putfield 161, 3) := by decide +kernel
theorem nd_GM_may_73 : decode nc_GM_may 73 = .ok (.iload 4, 2) := by decide +kernel
theorem nd_GM_may_75 : decode nc_GM_may 75 = .ok (.ifCond .ne 7, 3) := by decide +kernel
theorem nd_GM_may_78 : decode nc_GM_may 78 = .ok (.iconst 1, 1) := by decide +kernel
theorem nd_GM_may_79 : decode nc_GM_may 79 = .ok (.goto 4, 3) := by decide +kernel
theorem nd_GM_may_82 : decode nc_GM_may 82 = .ok (.iconst 0, 1) := by decide +kernel
theorem nd_GM_may_83 : decode nc_GM_may 83 = .ok (.ireturn, 1) := by decide +kernel
theorem nd_GM_get_0 : decode nc_GM_get 0 = .ok (.iload_n 1, 1) := by decide +kernel
theorem nd_GM_get_1 : decode nc_GM_get 1 = .ok (.sipush 4096, 3) := by decide +kernel
theorem nd_GM_get_4 : decode nc_GM_get 4 = .ok (.if_icmp .lt 18, 3) := by decide +kernel
theorem nd_GM_get_7 : decode nc_GM_get 7 = .ok (.aload_n 0, 1) := by decide +kernel
theorem nd_GM_get_8 : decode nc_GM_get 8 = .ok (.getfield 13, 3) := by decide +kernel
theorem nd_GM_get_11 : decode nc_GM_get 11 = .ok (.iload_n 1, 1) := by decide +kernel
theorem nd_GM_get_12 : decode nc_GM_get 12 = .ok (.sipush 4096, 3) := by decide +kernel
theorem nd_GM_get_15 : decode nc_GM_get 15 = .ok (.isub, 1) := by decide +kernel
theorem nd_GM_get_16 : decode nc_GM_get 16 = .ok (.iconst 4, 1) := by decide +kernel
theorem nd_GM_get_17 : decode nc_GM_get 17 = .ok (.idiv, 1) := by decide +kernel
theorem nd_GM_get_18 : decode nc_GM_get 18 = .ok (.iaload, 1) := by decide +kernel
theorem nd_GM_get_19 : decode nc_GM_get 19 = .ok (.goto 25, 3) := by decide +kernel
theorem nd_GM_get_22 : decode nc_GM_get 22 = .ok (.aload_n 0, 1) := by decide +kernel
theorem nd_GM_get_23 : decode nc_GM_get 23 = .ok (.getfield 7, 3) := by decide +kernel
theorem nd_GM_get_26 : decode nc_GM_get 26 = .ok (.iload_n 1, 1) := by decide +kernel
theorem nd_GM_get_27 : decode nc_GM_get 27 = .ok (.iconst 2, 1) := by decide +kernel
theorem nd_GM_get_28 : decode nc_GM_get 28 = .ok (.idiv, 1) := by decide +kernel
theorem nd_GM_get_29 : decode nc_GM_get 29 = .ok (.iaload, 1) := by decide +kernel
theorem nd_GM_get_30 : decode nc_GM_get 30 = .ok (.aload_n 0, 1) := by decide +kernel
theorem nd_GM_get_31 : decode nc_GM_get 31 = .ok (.getfield 7, 3) := by decide +kernel
theorem nd_GM_get_34 : decode nc_GM_get 34 = .ok (.iload_n 1, 1) := by decide +kernel
theorem nd_GM_get_35 : decode nc_GM_get 35 = .ok (.iconst 2, 1) := by decide +kernel
theorem nd_GM_get_36 : decode nc_GM_get 36 = .ok (.idiv, 1) := by decide +kernel
theorem nd_GM_get_37 : decode nc_GM_get 37 = .ok (.iconst 1, 1) := by decide +kernel
theorem nd_GM_get_38 : decode nc_GM_get 38 = .ok (.iadd, 1) := by decide +kernel
theorem nd_GM_get_39 : decode nc_GM_get 39 = .ok (.iaload, 1) := by decide +kernel
theorem nd_GM_get_40 : decode nc_GM_get 40 = .ok (.bipush 16, 2) := by decide +kernel
theorem nd_GM_get_42 : decode nc_GM_get 42 = .ok (.ishl, 1) := by decide +kernel
theorem nd_GM_get_43 : decode nc_GM_get 43 = .ok (.ior, 1) := by decide +kernel
theorem nd_GM_get_44 : decode nc_GM_get 44 = .ok (.ireturn, 1) := by decide +kernel
theorem nd_GM_set_0 : decode nc_GM_set 0 = .ok (.aload_n 0, 1) := by decide +kernel
theorem nd_GM_set_1 : decode nc_GM_set 1 = .ok (.getfield 13, 3) := by decide +kernel
theorem nd_GM_set_4 : decode nc_GM_set 4 = .ok (.iload_n 1, 1) := by decide +kernel
theorem nd_GM_set_5 : decode nc_GM_set 5 = .ok (.sipush 4096, 3) := by decide +kernel
theorem nd_GM_set_8 : decode nc_GM_set 8 = .ok (.isub, 1) := by decide +kernel
theorem nd_GM_set_9 : decode nc_GM_set 9 = .ok (.iconst 4, 1) := by decide +kernel
theorem nd_GM_set_10 : decode nc_GM_set 10 = .ok (.idiv, 1) := by decide +kernel
theorem nd_GM_set_11 : decode nc_GM_set 11 = .ok (.iload_n 2, 1) := by decide +kernel
theorem nd_GM_set_12 : decode nc_GM_set 12 = .ok (.iastore, 1) := by decide +kernel
theorem nd_GM_set_13 : decode nc_GM_set 13 = .ok (.return_, 1) := by decide +kernel
theorem nd_GM_eight_0 : decode nc_GM_eight 0 = .ok (.iconst 1, 1) := by decide +kernel
theorem nd_GM_eight_1 : decode nc_GM_eight 1 = .ok (.istore_n 3, 1) := by decide +kernel
theorem nd_GM_eight_2 : decode nc_GM_eight 2 = .ok (.iconst 0, 1) := by decide +kernel
theorem nd_GM_eight_3 : decode nc_GM_eight 3 = .ok (.istore 4, 2) := by decide +kernel
theorem nd_GM_eight_5 : decode nc_GM_eight 5 = .ok (.iload 4, 2) := by decide +kernel
theorem nd_GM_eight_7 : decode nc_GM_eight 7 = .ok (.bipush 8, 2) := by decide +kernel
theorem nd_GM_eight_9 : decode nc_GM_eight 9 = .ok (.if_icmp .ge 33, 3) := by decide +kernel
theorem nd_GM_eight_12 : decode nc_GM_eight 12 = .ok (.iload_n 3, 1) := by decide +kernel
theorem nd_GM_eight_13 : decode nc_GM_eight 13 = .ok (.ifCond .eq 21, 3) := by decide +kernel
theorem nd_GM_eight_16 : decode nc_GM_eight 16 = .ok (.aload_n 0, 1) := by decide +kernel
theorem nd_GM_eight_17 : decode nc_GM_eight 17 = .ok (.iload_n 1, 1) := by decide +kernel
theorem nd_GM_eight_18 : decode nc_GM_eight 18 = .ok (.iload_n 2, 1) := by decide +kernel
theorem nd_GM_eight_19 : decode nc_GM_eight 19 = .ok (.iconst 4, 1) := by decide +kernel
theorem nd_GM_eight_20 : decode nc_GM_eight 20 = .ok (.iload 4, 2) := by decide +kernel
theorem nd_GM_eight_22 : decode nc_GM_eight 22 = .ok (.imul, 1) := by decide +kernel
theorem nd_GM_eight_23 : decode nc_GM_eight 23 = .ok (.iadd, 1) := by decide +kernel
theorem nd_GM_eight_24 : decode nc_GM_eight 24 = .ok (.invokevirtual 154, 3) := by decide +kernel
theorem nd_GM_eight_27 : decode nc_GM_eight 27 = .ok (.ifCond .eq 7, 3) := by decide +kernel
theorem nd_GM_eight_30 : decode nc_GM_eight 30 = .ok (.iconst 1, 1) := by decide +kernel
theorem nd_GM_eight_31 : decode nc_GM_eight 31 = .ok (.goto 4, 3) := by decide +kernel
theorem nd_GM_eight_34 : decode nc_GM_eight 34 = .ok (.iconst 0, 1) := by decide +kernel
theorem nd_GM_eight_35 : decode nc_GM_eight 35 = .ok (.istore_n 3, 1) := by decide +kernel
theorem nd_GM_eight_36 : decode nc_GM_eight 36 = .ok (.iinc 4 1, 3) := by decide +kernel
theorem nd_GM_eight_39 : decode nc_GM_eight 39 = .ok (.goto (-34), 3) := by decide +kernel
theorem nd_GM_eight_42 : decode nc_GM_eight 42 = .ok (.iload_n 3, 1) := by decide +kernel
theorem nd_GM_eight_43 : decode nc_GM_eight 43 = .ok (.ireturn, 1) := by decide +kernel
theorem nd_GM_stack_0 : decode nc_GM_stack 0 = .ok (.aload_n 0, 1) := by decide +kernel
theorem nd_GM_stack_1 : decode nc_GM_stack 1 = .ok (.getfield 47, 3) := by decide +kernel
theorem nd_GM_stack_4 : decode nc_GM_stack 4 = .ok (.iload_n 1, 1) := by decide +kernel
theorem nd_GM_stack_5 : decode nc_GM_stack 5 = .ok (.iaload, 1) := by decide +kernel
theorem nd_GM_stack_6 : decode nc_GM_stack 6 = .ok (.bipush 32, 2) := by decide +kernel
theorem nd_GM_stack_8 : decode nc_GM_stack 8 = .ok (.isub, 1) := by decide +kernel
theorem nd_GM_stack_9 : decode nc_GM_stack 9 = .ok (.istore_n 3, 1) := by decide +kernel
theorem nd_GM_stack_10 : decode nc_GM_stack 10 = .ok (.iload_n 3, 1) := by decide +kernel
theorem nd_GM_stack_11 : decode nc_GM_stack 11 = .ok (.bipush 7, 2) := by decide +kernel
theorem nd_GM_stack_13 : decode nc_GM_stack 13 = .ok (.iand, 1) := by decide +kernel
theorem nd_GM_stack_14 : decode nc_GM_stack 14 = .ok (.ifCond .eq 7, 3) := by decide +kernel
theorem nd_GM_stack_17 : decode nc_GM_stack 17 = .ok (.iconst 1, 1) := by decide +kernel
theorem nd_GM_stack_18 : decode nc_GM_stack 18 = .ok (.goto 4, 3) := by decide +kernel
theorem nd_GM_stack_21 : decode nc_GM_stack 21 = .ok (.iconst 0, 1) := by decide +kernel
theorem nd_GM_stack_22 : decode nc_GM_stack 22 = .ok (.istore 4, 2) := by decide +kernel
theorem nd_GM_stack_24 : decode nc_GM_stack 24 = .ok (.iload 4, 2) := by decide +kernel
theorem nd_GM_stack_26 : decode nc_GM_stack 26 = .ok (.ifCond .eq 9, 3) := by decide +kernel
theorem nd_GM_stack_29 : decode nc_GM_stack 29 = .ok (.iload_n 3, 1) := by decide +kernel
theorem nd_GM_stack_30 : decode nc_GM_stack 30 = .ok (.iconst 4, 1) := by decide +kernel
theorem nd_GM_stack_31 : decode nc_GM_stack 31 = .ok (.isub, 1) := by decide +kernel
theorem nd_GM_stack_32 : decode nc_GM_stack 32 = .ok (.goto 4, 3) := by decide +kernel
theorem nd_GM_stack_35 : decode nc_GM_stack 35 = .ok (.iload_n 3, 1) := by decide +kernel
theorem nd_GM_stack_36 : decode nc_GM_stack 36 = .ok (.istore_n 3, 1) := by decide +kernel
theorem nd_GM_stack_37 : decode nc_GM_stack 37 = .ok (.aload_n 0, 1) := by decide +kernel
theorem nd_GM_stack_38 : decode nc_GM_stack 38 = .ok (.iload_n 1, 1) := by decide +kernel
theorem nd_GM_stack_39 : decode nc_GM_stack 39 = .ok (.iload_n 3, 1) := by decide +kernel
theorem nd_GM_stack_40 : decode nc_GM_stack 40 = .ok (.invokevirtual 164, 3) := by decide +kernel
theorem nd_GM_stack_43 : decode nc_GM_stack 43 = .ok (.ifCond .ne 10, 3) := by decide +kernel
theorem nd_GM_stack_46 : decode nc_GM_stack 46 = .ok (.aload_n 0, 1) := by decide +kernel
theorem nd_GM_stack_47 : decode nc_GM_stack 47 = .ok (.bipush 6, 2) := by decide +kernel
theorem nd_GM_stack_49 : decode nc_GM_stack 49 = .ok (.putfield 161, 3) := by decide +kernel
theorem nd_GM_stack_52 : decode nc_GM_stack 52 = .ok (.return_, 1) := by decide +kernel
theorem nd_GM_stack_53 : decode nc_GM_stack 53 = .ok (.iconst 0, 1) := by decide +kernel
theorem nd_GM_stack_54 : decode nc_GM_stack 54 = .ok (.istore 5, 2) := by decide +kernel
theorem nd_GM_stack_56 : decode nc_GM_stack 56 = .ok (.iload 5, 2) := by decide +kernel
theorem nd_GM_stack_58 : decode nc_GM_stack 58 = .ok (.iconst 4, 1) := by decide +kernel
theorem nd_GM_stack_59 : decode nc_GM_stack 59 = .ok (.if_icmp .ge 31, 3) := by decide +kernel
theorem nd_GM_stack_62 : decode nc_GM_stack 62 = .ok (.aload_n 0, 1) := by decide +kernel
theorem nd_GM_stack_63 : decode nc_GM_stack 63 = .ok (.iload_n 3, 1) := by decide +kernel
theorem nd_GM_stack_64 : decode nc_GM_stack 64 = .ok (.iconst 4, 1) := by decide +kernel
theorem nd_GM_stack_65 : decode nc_GM_stack 65 = .ok (.iload 5, 2) := by decide +kernel
theorem nd_GM_stack_67 : decode nc_GM_stack 67 = .ok (.imul, 1) := by decide +kernel
theorem nd_GM_stack_68 : decode nc_GM_stack 68 = .ok (.iadd, 1) := by decide +kernel
theorem nd_GM_stack_69 : decode nc_GM_stack 69 = .ok (.aload_n 0, 1) := by decide +kernel
theorem nd_GM_stack_70 : decode nc_GM_stack 70 = .ok (.getfield 44, 3) := by decide +kernel
theorem nd_GM_stack_73 : decode nc_GM_stack 73 = .ok (.bipush 8, 2) := by decide +kernel
theorem nd_GM_stack_75 : decode nc_GM_stack 75 = .ok (.iload_n 1, 1) := by decide +kernel
theorem nd_GM_stack_76 : decode nc_GM_stack 76 = .ok (.imul, 1) := by decide +kernel
theorem nd_GM_stack_77 : decode nc_GM_stack 77 = .ok (.iload 5, 2) := by decide +kernel
theorem nd_GM_stack_79 : decode nc_GM_stack 79 = .ok (.iadd, 1) := by decide +kernel
theorem nd_GM_stack_80 : decode nc_GM_stack 80 = .ok (.iaload, 1) := by decide +kernel
theorem nd_GM_stack_81 : decode nc_GM_stack 81 = .ok (.invokevirtual 167, 3) := by decide +kernel
theorem nd_GM_stack_84 : decode nc_GM_stack 84 = .ok (.iinc 5 1, 3) := by decide +kernel
theorem nd_GM_stack_87 : decode nc_GM_stack 87 = .ok (.goto (-31), 3) := by decide +kernel
theorem nd_GM_stack_90 : decode nc_GM_stack 90 = .ok (.aload_n 0, 1) := by decide +kernel
theorem nd_GM_stack_91 : decode nc_GM_stack 91 = .ok (.iload_n 3, 1) := by decide +kernel
theorem nd_GM_stack_92 : decode nc_GM_stack 92 = .ok (.bipush 16, 2) := by decide +kernel
theorem nd_GM_stack_94 : decode nc_GM_stack 94 = .ok (.iadd, 1) := by decide +kernel
theorem nd_GM_stack_95 : decode nc_GM_stack 95 = .ok (.iconst 0, 1) := by decide +kernel
theorem nd_GM_stack_96 : decode nc_GM_stack 96 = .ok (.invokevirtual 167, 3) := by decide +kernel
theorem nd_GM_stack_99 : decode nc_GM_stack 99 = .ok (.aload_n 0, 1) := by decide +kernel
theorem nd_GM_stack_100 : decode nc_GM_stack 100 = .ok (.iload_n 3, 1) := by decide +kernel
theorem nd_GM_stack_101 : decode nc_GM_stack 101 = .ok (.bipush 20, 2) := by decide +kernel
theorem nd_GM_stack_103 : decode nc_GM_stack 103 = .ok (.iadd, 1) := by decide +kernel
theorem nd_GM_stack_104 : decode nc_GM_stack 104 = .ok (.aload_n 0, 1) := by decide +kernel
theorem nd_GM_stack_105 : decode nc_GM_stack 105 = .ok (.getfield 50, 3) := by decide +kernel
theorem nd_GM_stack_108 : decode nc_GM_stack 108 = .ok (.iload_n 1, 1) := by decide +kernel
theorem nd_GM_stack_109 : decode nc_GM_stack 109 = .ok (.iaload, 1) := by decide +kernel
theorem nd_GM_stack_110 : decode nc_GM_stack 110 = .ok (.invokevirtual 167, 3) := by decide +kernel
theorem nd_GM_stack_113 : decode nc_GM_stack 113 = .ok (.aload_n 0, 1) := by decide +kernel
theorem nd_GM_stack_114 : decode nc_GM_stack 114 = .ok (.iload_n 3, 1) := by decide +kernel
theorem nd_GM_stack_115 : decode nc_GM_stack 115 = .ok (.bipush 24, 2) := by decide +kernel
theorem nd_GM_stack_117 : decode nc_GM_stack 117 = .ok (.iadd, 1) := by decide +kernel
theorem nd_GM_stack_118 : decode nc_GM_stack 118 = .ok (.iload_n 2, 1) := by decide +kernel
theorem nd_GM_stack_119 : decode nc_GM_stack 119 = .ok (.invokevirtual 167, 3) := by decide +kernel
theorem nd_GM_stack_122 : decode nc_GM_stack 122 = .ok (.aload_n 0, 1) := by decide +kernel
theorem nd_GM_stack_123 : decode nc_GM_stack 123 = .ok (.iload_n 3, 1) := by decide +kernel
theorem nd_GM_stack_124 : decode nc_GM_stack 124 = .ok (.bipush 28, 2) := by decide +kernel
theorem nd_GM_stack_126 : decode nc_GM_stack 126 = .ok (.iadd, 1) := by decide +kernel
theorem nd_GM_stack_127 : decode nc_GM_stack 127 = .ok (.aload_n 0, 1) := by decide +kernel
theorem nd_GM_stack_128 : decode nc_GM_stack 128 = .ok (.getfield 56, 3) := by decide +kernel
theorem nd_GM_stack_131 : decode nc_GM_stack 131 = .ok (.iload_n 1, 1) := by decide +kernel
theorem nd_GM_stack_132 : decode nc_GM_stack 132 = .ok (.iaload, 1) := by decide +kernel
theorem nd_GM_stack_133 : decode nc_GM_stack 133 = .ok (.ldc 170, 2) := by decide +kernel
theorem nd_GM_stack_135 : decode nc_GM_stack 135 = .ok (.imul, 1) := by decide +kernel
theorem nd_GM_stack_136 : decode nc_GM_stack 136 = .ok (.ldc 171, 2) := by decide +kernel
theorem nd_GM_stack_138 : decode nc_GM_stack 138 = .ok (.iadd, 1) := by decide +kernel
theorem nd_GM_stack_139 : decode nc_GM_stack 139 = .ok (.iload 4, 2) := by decide +kernel
theorem nd_GM_stack_141 : decode nc_GM_stack 141 = .ok (.ifCond .eq 9, 3) := by decide +kernel
theorem nd_GM_stack_144 : decode nc_GM_stack 144 = .ok (.sipush 512, 3) := by decide +kernel
theorem nd_GM_stack_147 : decode nc_GM_stack 147 = .ok (.goto 4, 3) := by decide +kernel
theorem nd_GM_stack_150 : decode nc_GM_stack 150 = .ok (.iconst 0, 1) := by decide +kernel
theorem nd_GM_stack_151 : decode nc_GM_stack 151 = .ok (.iadd, 1) := by decide +kernel
theorem nd_GM_stack_152 : decode nc_GM_stack 152 = .ok (.invokevirtual 167, 3) := by decide +kernel
theorem nd_GM_stack_155 : decode nc_GM_stack 155 = .ok (.aload_n 0, 1) := by decide +kernel
theorem nd_GM_stack_156 : decode nc_GM_stack 156 = .ok (.getfield 47, 3) := by decide +kernel
theorem nd_GM_stack_159 : decode nc_GM_stack 159 = .ok (.iload_n 1, 1) := by decide +kernel
theorem nd_GM_stack_160 : decode nc_GM_stack 160 = .ok (.iload_n 3, 1) := by decide +kernel
theorem nd_GM_stack_161 : decode nc_GM_stack 161 = .ok (.iastore, 1) := by decide +kernel
theorem nd_GM_stack_162 : decode nc_GM_stack 162 = .ok (.aload_n 0, 1) := by decide +kernel
theorem nd_GM_stack_163 : decode nc_GM_stack 163 = .ok (.getfield 59, 3) := by decide +kernel
theorem nd_GM_stack_166 : decode nc_GM_stack 166 = .ok (.iload_n 1, 1) := by decide +kernel
theorem nd_GM_stack_167 : decode nc_GM_stack 167 = .ok (.iconst 1, 1) := by decide +kernel
theorem nd_GM_stack_168 : decode nc_GM_stack 168 = .ok (.bastore, 1) := by decide +kernel
theorem nd_GM_stack_169 : decode nc_GM_stack 169 = .ok (.return_, 1) := by decide +kernel
theorem nd_GM_unstack_0 : decode nc_GM_unstack 0 = .ok (.aload_n 0, 1) := by decide +kernel
theorem nd_GM_unstack_1 : decode nc_GM_unstack 1 = .ok (.getfield 47, 3) := by decide +kernel
theorem nd_GM_unstack_4 : decode nc_GM_unstack 4 = .ok (.iload_n 1, 1) := by decide +kernel
theorem nd_GM_unstack_5 : decode nc_GM_unstack 5 = .ok (.iaload, 1) := by decide +kernel
theorem nd_GM_unstack_6 : decode nc_GM_unstack 6 = .ok (.istore_n 2, 1) := by decide +kernel
theorem nd_GM_unstack_7 : decode nc_GM_unstack 7 = .ok (.aload_n 0, 1) := by decide +kernel
theorem nd_GM_unstack_8 : decode nc_GM_unstack 8 = .ok (.iload_n 1, 1) := by decide +kernel
theorem nd_GM_unstack_9 : decode nc_GM_unstack 9 = .ok (.iload_n 2, 1) := by decide +kernel
theorem nd_GM_unstack_10 : decode nc_GM_unstack 10 = .ok (.invokevirtual 164, 3) := by decide +kernel
theorem nd_GM_unstack_13 : decode nc_GM_unstack 13 = .ok (.ifCond .ne 10, 3) := by decide +kernel
theorem nd_GM_unstack_16 : decode nc_GM_unstack 16 = .ok (.aload_n 0, 1) := by decide +kernel
theorem nd_GM_unstack_17 : decode nc_GM_unstack 17 = .ok (.bipush 6, 2) := by decide +kernel
theorem nd_GM_unstack_19 : decode nc_GM_unstack 19 = .ok (.putfield 161, 3) := by decide +kernel
theorem nd_GM_unstack_22 : decode nc_GM_unstack 22 = .ok (.return_, 1) := by decide +kernel
theorem nd_GM_unstack_23 : decode nc_GM_unstack 23 = .ok (.iconst 0, 1) := by decide +kernel
theorem nd_GM_unstack_24 : decode nc_GM_unstack 24 = .ok (.istore_n 3, 1) := by decide +kernel
theorem nd_GM_unstack_25 : decode nc_GM_unstack 25 = .ok (.iload_n 3, 1) := by decide +kernel
theorem nd_GM_unstack_26 : decode nc_GM_unstack 26 = .ok (.iconst 4, 1) := by decide +kernel
theorem nd_GM_unstack_27 : decode nc_GM_unstack 27 = .ok (.if_icmp .ge 29, 3) := by decide +kernel
theorem nd_GM_unstack_30 : decode nc_GM_unstack 30 = .ok (.aload_n 0, 1) := by decide +kernel
theorem nd_GM_unstack_31 : decode nc_GM_unstack 31 = .ok (.getfield 44, 3) := by decide +kernel
theorem nd_GM_unstack_34 : decode nc_GM_unstack 34 = .ok (.bipush 8, 2) := by decide +kernel
theorem nd_GM_unstack_36 : decode nc_GM_unstack 36 = .ok (.iload_n 1, 1) := by decide +kernel
theorem nd_GM_unstack_37 : decode nc_GM_unstack 37 = .ok (.imul, 1) := by decide +kernel
theorem nd_GM_unstack_38 : decode nc_GM_unstack 38 = .ok (.iload_n 3, 1) := by decide +kernel
theorem nd_GM_unstack_39 : decode nc_GM_unstack 39 = .ok (.iadd, 1) := by decide +kernel
theorem nd_GM_unstack_40 : decode nc_GM_unstack 40 = .ok (.aload_n 0, 1) := by decide +kernel
theorem nd_GM_unstack_41 : decode nc_GM_unstack 41 = .ok (.iload_n 2, 1) := by decide +kernel
theorem nd_GM_unstack_42 : decode nc_GM_unstack 42 = .ok (.iconst 4, 1) := by decide +kernel
theorem nd_GM_unstack_43 : decode nc_GM_unstack 43 = .ok (.iload_n 3, 1) := by decide +kernel
theorem nd_GM_unstack_44 : decode nc_GM_unstack 44 = .ok (.imul, 1) := by decide +kernel
theorem nd_GM_unstack_45 : decode nc_GM_unstack 45 = .ok (.iadd, 1) := by decide +kernel
theorem nd_GM_unstack_46 : decode nc_GM_unstack 46 = .ok (.invokevirtual 172, 3) := by decide +kernel
theorem nd_GM_unstack_49 : decode nc_GM_unstack 49 = .ok (.iastore, 1) := by decide +kernel
theorem nd_GM_unstack_50 : decode nc_GM_unstack 50 = .ok (.iinc 3 1, 3) := by decide +kernel
theorem nd_GM_unstack_53 : decode nc_GM_unstack 53 = .ok (.goto (-28), 3) := by decide +kernel
theorem nd_GM_unstack_56 : decode nc_GM_unstack 56 = .ok (.aload_n 0, 1) := by decide +kernel
theorem nd_GM_unstack_57 : decode nc_GM_unstack 57 = .ok (.getfield 50, 3) := by decide +kernel
theorem nd_GM_unstack_60 : decode nc_GM_unstack 60 = .ok (.iload_n 1, 1) := by decide +kernel
theorem nd_GM_unstack_61 : decode nc_GM_unstack 61 = .ok (.aload_n 0, 1) := by decide +kernel
theorem nd_GM_unstack_62 : decode nc_GM_unstack 62 = .ok (.iload_n 2, 1) := by decide +kernel
theorem nd_GM_unstack_63 : decode nc_GM_unstack 63 = .ok (.bipush 20, 2) := by decide +kernel
theorem nd_GM_unstack_65 : decode nc_GM_unstack 65 = .ok (.iadd, 1) := by decide +kernel
theorem nd_GM_unstack_66 : decode nc_GM_unstack 66 = .ok (.invokevirtual 172, 3) := by decide +kernel
theorem nd_GM_unstack_69 : decode nc_GM_unstack 69 = .ok (.iastore, 1) := by decide +kernel
theorem nd_GM_unstack_70 : decode nc_GM_unstack 70 = .ok (.aload_n 0, 1) := by decide +kernel
theorem nd_GM_unstack_71 : decode nc_GM_unstack 71 = .ok (.getfield 53, 3) := by decide +kernel
theorem nd_GM_unstack_74 : decode nc_GM_unstack 74 = .ok (.iload_n 1, 1) := by decide +kernel
theorem nd_GM_unstack_75 : decode nc_GM_unstack 75 = .ok (.aload_n 0, 1) := by decide +kernel
theorem nd_GM_unstack_76 : decode nc_GM_unstack 76 = .ok (.iload_n 2, 1) := by decide +kernel
theorem nd_GM_unstack_77 : decode nc_GM_unstack 77 = .ok (.bipush 24, 2) := by decide +kernel
theorem nd_GM_unstack_79 : decode nc_GM_unstack 79 = .ok (.iadd, 1) := by decide +kernel
theorem nd_GM_unstack_80 : decode nc_GM_unstack 80 = .ok (.invokevirtual 172, 3) := by decide +kernel
theorem nd_GM_unstack_83 : decode nc_GM_unstack 83 = .ok (.bipush (-2), 2) := by decide +kernel
theorem nd_GM_unstack_85 : decode nc_GM_unstack 85 = .ok (.iand, 1) := by decide +kernel
theorem nd_GM_unstack_86 : decode nc_GM_unstack 86 = .ok (.iastore, 1) := by decide +kernel
theorem nd_GM_unstack_87 : decode nc_GM_unstack 87 = .ok (.aload_n 0, 1) := by decide +kernel
theorem nd_GM_unstack_88 : decode nc_GM_unstack 88 = .ok (.iload_n 2, 1) := by decide +kernel
theorem nd_GM_unstack_89 : decode nc_GM_unstack 89 = .ok (.bipush 28, 2) := by decide +kernel
theorem nd_GM_unstack_91 : decode nc_GM_unstack 91 = .ok (.iadd, 1) := by decide +kernel
theorem nd_GM_unstack_92 : decode nc_GM_unstack 92 = .ok (.invokevirtual 172, 3) := by decide +kernel
theorem nd_GM_unstack_95 : decode nc_GM_unstack 95 = .ok (.istore_n 3, 1) := by decide +kernel
theorem nd_GM_unstack_96 : decode nc_GM_unstack 96 = .ok (.aload_n 0, 1) := by decide +kernel
theorem nd_GM_unstack_97 : decode nc_GM_unstack 97 = .ok (.getfield 56, 3) := by decide +kernel
theorem nd_GM_unstack_100 : decode nc_GM_unstack 100 = .ok (.iload_n 1, 1) := by decide +kernel
theorem nd_GM_unstack_101 : decode nc_GM_unstack 101 = .ok (.iload_n 3, 1) := by decide +kernel
theorem nd_GM_unstack_102 : decode nc_GM_unstack 102 = .ok (.bipush 28, 2) := by decide +kernel
theorem nd_GM_unstack_104 : decode nc_GM_unstack 104 = .ok (.iushr, 1) := by decide +kernel
theorem nd_GM_unstack_105 : decode nc_GM_unstack 105 = .ok (.iastore, 1) := by decide +kernel
theorem nd_GM_unstack_106 : decode nc_GM_unstack 106 = .ok (.aload_n 0, 1) := by decide +kernel
theorem nd_GM_unstack_107 : decode nc_GM_unstack 107 = .ok (.getfield 47, 3) := by decide +kernel
theorem nd_GM_unstack_110 : decode nc_GM_unstack 110 = .ok (.iload_n 1, 1) := by decide +kernel
theorem nd_GM_unstack_111 : decode nc_GM_unstack 111 = .ok (.iload_n 2, 1) := by decide +kernel
theorem nd_GM_unstack_112 : decode nc_GM_unstack 112 = .ok (.bipush 32, 2) := by decide +kernel
theorem nd_GM_unstack_114 : decode nc_GM_unstack 114 = .ok (.iadd, 1) := by decide +kernel
theorem nd_GM_unstack_115 : decode nc_GM_unstack 115 = .ok (.iload_n 3, 1) := by decide +kernel
theorem nd_GM_unstack_116 : decode nc_GM_unstack 116 = .ok (.sipush 512, 3) := by decide +kernel
theorem nd_GM_unstack_119 : decode nc_GM_unstack 119 = .ok (.iand, 1) := by decide +kernel
theorem nd_GM_unstack_120 : decode nc_GM_unstack 120 = .ok (.ifCond .eq 7, 3) := by decide +kernel
theorem nd_GM_unstack_123 : decode nc_GM_unstack 123 = .ok (.iconst 4, 1) := by decide +kernel
theorem nd_GM_unstack_124 : decode nc_GM_unstack 124 = .ok (.goto 4, 3) := by decide +kernel
theorem nd_GM_unstack_127 : decode nc_GM_unstack 127 = .ok (.iconst 0, 1) := by decide +kernel
theorem nd_GM_unstack_128 : decode nc_GM_unstack 128 = .ok (.iadd, 1) := by decide +kernel
theorem nd_GM_unstack_129 : decode nc_GM_unstack 129 = .ok (.iastore, 1) := by decide +kernel
theorem nd_GM_unstack_130 : decode nc_GM_unstack 130 = .ok (.aload_n 0, 1) := by decide +kernel
theorem nd_GM_unstack_131 : decode nc_GM_unstack 131 = .ok (.getfield 59, 3) := by decide +kernel
theorem nd_GM_unstack_134 : decode nc_GM_unstack 134 = .ok (.iload_n 1, 1) := by decide +kernel
theorem nd_GM_unstack_135 : decode nc_GM_unstack 135 = .ok (.iconst 0, 1) := by decide +kernel
theorem nd_GM_unstack_136 : decode nc_GM_unstack 136 = .ok (.bastore, 1) := by decide +kernel
theorem nd_GM_unstack_137 : decode nc_GM_unstack 137 = .ok (.return_, 1) := by decide +kernel
theorem nd_GM_nz_0 : decode nc_GM_nz 0 = .ok (.aload_n 0, 1) := by decide +kernel
theorem nd_GM_nz_1 : decode nc_GM_nz 1 = .ok (.getfield 56, 3) := by decide +kernel
theorem nd_GM_nz_4 : decode nc_GM_nz 4 = .ok (.iload_n 1, 1) := by decide +kernel
theorem nd_GM_nz_5 : decode nc_GM_nz 5 = .ok (.aload_n 0, 1) := by decide +kernel
theorem nd_GM_nz_6 : decode nc_GM_nz 6 = .ok (.getfield 56, 3) := by decide +kernel
theorem nd_GM_nz_9 : decode nc_GM_nz 9 = .ok (.iload_n 1, 1) := by decide +kernel
theorem nd_GM_nz_10 : decode nc_GM_nz 10 = .ok (.iaload, 1) := by decide +kernel
theorem nd_GM_nz_11 : decode nc_GM_nz 11 = .ok (.iconst 3, 1) := by decide +kernel
theorem nd_GM_nz_12 : decode nc_GM_nz 12 = .ok (.iand, 1) := by decide +kernel
theorem nd_GM_nz_13 : decode nc_GM_nz 13 = .ok (.iload_n 2, 1) := by decide +kernel
theorem nd_GM_nz_14 : decode nc_GM_nz 14 = .ok (.ifCond .ge 8, 3) := by decide +kernel
theorem nd_GM_nz_17 : decode nc_GM_nz 17 = .ok (.bipush 8, 2) := by decide +kernel
theorem nd_GM_nz_19 : decode nc_GM_nz 19 = .ok (.goto 4, 3) := by decide +kernel
theorem nd_GM_nz_22 : decode nc_GM_nz 22 = .ok (.iconst 0, 1) := by decide +kernel
theorem nd_GM_nz_23 : decode nc_GM_nz 23 = .ok (.ior, 1) := by decide +kernel
theorem nd_GM_nz_24 : decode nc_GM_nz 24 = .ok (.iload_n 2, 1) := by decide +kernel
theorem nd_GM_nz_25 : decode nc_GM_nz 25 = .ok (.ifCond .ne 7, 3) := by decide +kernel
theorem nd_GM_nz_28 : decode nc_GM_nz 28 = .ok (.iconst 4, 1) := by decide +kernel
theorem nd_GM_nz_29 : decode nc_GM_nz 29 = .ok (.goto 4, 3) := by decide +kernel
theorem nd_GM_nz_32 : decode nc_GM_nz 32 = .ok (.iconst 0, 1) := by decide +kernel
theorem nd_GM_nz_33 : decode nc_GM_nz 33 = .ok (.ior, 1) := by decide +kernel
theorem nd_GM_nz_34 : decode nc_GM_nz 34 = .ok (.iastore, 1) := by decide +kernel
theorem nd_GM_nz_35 : decode nc_GM_nz 35 = .ok (.return_, 1) := by decide +kernel
theorem nd_GM_sum_0 : decode nc_GM_sum 0 = .ok (.iload_n 2, 1) := by decide +kernel
theorem nd_GM_sum_1 : decode nc_GM_sum 1 = .ok (.i2l, 1) := by decide +kernel
theorem nd_GM_sum_2 : decode nc_GM_sum 2 = .ok (.ldc2_w 175, 3) := by decide +kernel
theorem nd_GM_sum_5 : decode nc_GM_sum 5 = .ok (.land, 1) := by decide +kernel
theorem nd_GM_sum_6 : decode nc_GM_sum 6 = .ok (.iload_n 3, 1) := by decide +kernel
theorem nd_GM_sum_7 : decode nc_GM_sum 7 = .ok (.i2l, 1) := by decide +kernel
theorem nd_GM_sum_8 : decode nc_GM_sum 8 = .ok (.ldc2_w 175, 3) := by decide +kernel
theorem nd_GM_sum_11 : decode nc_GM_sum 11 = .ok (.land, 1) := by decide +kernel
theorem nd_GM_sum_12 : decode nc_GM_sum 12 = .ok (.ladd, 1) := by decide +kernel
theorem nd_GM_sum_13 : decode nc_GM_sum 13 = .ok (.iload 4, 2) := by decide +kernel
theorem nd_GM_sum_15 : decode nc_GM_sum 15 = .ok (.i2l, 1) := by decide +kernel
theorem nd_GM_sum_16 : decode nc_GM_sum 16 = .ok (.ladd, 1) := by decide +kernel
theorem nd_GM_sum_17 : decode nc_GM_sum 17 = .ok (.lstore 5, 2) := by decide +kernel
theorem nd_GM_sum_19 : decode nc_GM_sum 19 = .ok (.iload_n 2, 1) := by decide +kernel
theorem nd_GM_sum_20 : decode nc_GM_sum 20 = .ok (.i2l, 1) := by decide +kernel
theorem nd_GM_sum_21 : decode nc_GM_sum 21 = .ok (.iload_n 3, 1) := by decide +kernel
theorem nd_GM_sum_22 : decode nc_GM_sum 22 = .ok (.i2l, 1) := by decide +kernel
theorem nd_GM_sum_23 : decode nc_GM_sum 23 = .ok (.ladd, 1) := by decide +kernel
theorem nd_GM_sum_24 : decode nc_GM_sum 24 = .ok (.iload 4, 2) := by decide +kernel
theorem nd_GM_sum_26 : decode nc_GM_sum 26 = .ok (.i2l, 1) := by decide +kernel
theorem nd_GM_sum_27 : decode nc_GM_sum 27 = .ok (.ladd, 1) := by decide +kernel
theorem nd_GM_sum_28 : decode nc_GM_sum 28 = .ok (.lstore 7, 2) := by decide +kernel
theorem nd_GM_sum_30 : decode nc_GM_sum 30 = .ok (.lload 7, 2) := by decide +kernel
theorem nd_GM_sum_32 : decode nc_GM_sum 32 = .ok (.l2i, 1) := by decide +kernel
theorem nd_GM_sum_33 : decode nc_GM_sum 33 = .ok (.istore 9, 2) := by decide +kernel
theorem nd_GM_sum_35 : decode nc_GM_sum 35 = .ok (.aload_n 0, 1) := by decide +kernel
theorem nd_GM_sum_36 : decode nc_GM_sum 36 = .ok (.getfield 56, 3) := by decide +kernel
theorem nd_GM_sum_39 : decode nc_GM_sum 39 = .ok (.iload_n 1, 1) := by decide +kernel
theorem nd_GM_sum_40 : decode nc_GM_sum 40 = .ok (.iload 9, 2) := by decide +kernel
theorem nd_GM_sum_42 : decode nc_GM_sum 42 = .ok (.ifCond .ge 8, 3) := by decide +kernel
theorem nd_GM_sum_45 : decode nc_GM_sum 45 = .ok (.bipush 8, 2) := by decide +kernel
theorem nd_GM_sum_47 : decode nc_GM_sum 47 = .ok (.goto 4, 3) := by decide +kernel
theorem nd_GM_sum_50 : decode nc_GM_sum 50 = .ok (.iconst 0, 1) := by decide +kernel
theorem nd_GM_sum_51 : decode nc_GM_sum 51 = .ok (.iload 9, 2) := by decide +kernel
theorem nd_GM_sum_53 : decode nc_GM_sum 53 = .ok (.ifCond .ne 7, 3) := by decide +kernel
theorem nd_GM_sum_56 : decode nc_GM_sum 56 = .ok (.iconst 4, 1) := by decide +kernel
theorem nd_GM_sum_57 : decode nc_GM_sum 57 = .ok (.goto 4, 3) := by decide +kernel
theorem nd_GM_sum_60 : decode nc_GM_sum 60 = .ok (.iconst 0, 1) := by decide +kernel
theorem nd_GM_sum_61 : decode nc_GM_sum 61 = .ok (.ior, 1) := by decide +kernel
theorem nd_GM_sum_62 : decode nc_GM_sum 62 = .ok (.lload 5, 2) := by decide +kernel
theorem nd_GM_sum_64 : decode nc_GM_sum 64 = .ok (.ldc2_w 177, 3) := by decide +kernel
theorem nd_GM_sum_67 : decode nc_GM_sum 67 = .ok (.lcmp, 1) := by decide +kernel
theorem nd_GM_sum_68 : decode nc_GM_sum 68 = .ok (.ifCond .lt 7, 3) := by decide +kernel
theorem nd_GM_sum_71 : decode nc_GM_sum 71 = .ok (.iconst 2, 1) := by decide +kernel
theorem nd_GM_sum_72 : decode nc_GM_sum 72 = .ok (.goto 4, 3) := by decide +kernel
theorem nd_GM_sum_75 : decode nc_GM_sum 75 = .ok (.iconst 0, 1) := by decide +kernel
theorem nd_GM_sum_76 : decode nc_GM_sum 76 = .ok (.ior, 1) := by decide +kernel
theorem nd_GM_sum_77 : decode nc_GM_sum 77 = .ok (.lload 7, 2) := by decide +kernel
theorem nd_GM_sum_79 : decode nc_GM_sum 79 = .ok (.iload 9, 2) := by decide +kernel
theorem nd_GM_sum_81 : decode nc_GM_sum 81 = .ok (.i2l, 1) := by decide +kernel
theorem nd_GM_sum_82 : decode nc_GM_sum 82 = .ok (.lcmp, 1) := by decide +kernel
theorem nd_GM_sum_83 : decode nc_GM_sum 83 = .ok (.ifCond .eq 7, 3) := by decide +kernel
theorem nd_GM_sum_86 : decode nc_GM_sum 86 = .ok (.iconst 1, 1) := by decide +kernel
theorem nd_GM_sum_87 : decode nc_GM_sum 87 = .ok (.goto 4, 3) := by decide +kernel
theorem nd_GM_sum_90 : decode nc_GM_sum 90 = .ok (.iconst 0, 1) := by decide +kernel
theorem nd_GM_sum_91 : decode nc_GM_sum 91 = .ok (.ior, 1) := by decide +kernel
theorem nd_GM_sum_92 : decode nc_GM_sum 92 = .ok (.iastore, 1) := by decide +kernel
theorem nd_GM_sum_93 : decode nc_GM_sum 93 = .ok (.iload 9, 2) := by decide +kernel
theorem nd_GM_sum_95 : decode nc_GM_sum 95 = .ok (.ireturn, 1) := by decide +kernel
theorem nd_GM_setCarry_0 : decode nc_GM_setCarry 0 = .ok (.aload_n 0, 1) := by decide +kernel
theorem nd_GM_setCarry_1 : decode nc_GM_setCarry 1 = .ok (.getfield 56, 3) := by decide +kernel
theorem nd_GM_setCarry_4 : decode nc_GM_setCarry 4 = .ok (.iload_n 1, 1) := by decide +kernel
theorem nd_GM_setCarry_5 : decode nc_GM_setCarry 5 = .ok (.aload_n 0, 1) := by decide +kernel
theorem nd_GM_setCarry_6 : decode nc_GM_setCarry 6 = .ok (.getfield 56, 3) := by decide +kernel
theorem nd_GM_setCarry_9 : decode nc_GM_setCarry 9 = .ok (.iload_n 1, 1) := by decide +kernel
theorem nd_GM_setCarry_10 : decode nc_GM_setCarry 10 = .ok (.iaload, 1) := by decide +kernel
theorem nd_GM_setCarry_11 : decode nc_GM_setCarry 11 = .ok (.bipush 13, 2) := by decide +kernel
theorem nd_GM_setCarry_13 : decode nc_GM_setCarry 13 = .ok (.iand, 1) := by decide +kernel
theorem nd_GM_setCarry_14 : decode nc_GM_setCarry 14 = .ok (.iload_n 2, 1) := by decide +kernel
theorem nd_GM_setCarry_15 : decode nc_GM_setCarry 15 = .ok (.iconst 1, 1) := by decide +kernel
theorem nd_GM_setCarry_16 : decode nc_GM_setCarry 16 = .ok (.ishl, 1) := by decide +kernel
theorem nd_GM_setCarry_17 : decode nc_GM_setCarry 17 = .ok (.ior, 1) := by decide +kernel
theorem nd_GM_setCarry_18 : decode nc_GM_setCarry 18 = .ok (.iastore, 1) := by decide +kernel
theorem nd_GM_setCarry_19 : decode nc_GM_setCarry 19 = .ok (.return_, 1) := by decide +kernel
theorem nd_GM_shifted_0 : decode nc_GM_shifted 0 = .ok (.iload_n 2, 1) := by decide +kernel
theorem nd_GM_shifted_1 : decode nc_GM_shifted 1 = .ok (.istore 5, 2) := by decide +kernel
theorem nd_GM_shifted_3 : decode nc_GM_shifted 3 = .ok (.aload_n 0, 1) := by decide +kernel
theorem nd_GM_shifted_4 : decode nc_GM_shifted 4 = .ok (.aload_n 0, 1) := by decide +kernel
theorem nd_GM_shifted_5 : decode nc_GM_shifted 5 = .ok (.getfield 56, 3) := by decide +kernel
theorem nd_GM_shifted_8 : decode nc_GM_shifted 8 = .ok (.iload_n 1, 1) := by decide +kernel
theorem nd_GM_shifted_9 : decode nc_GM_shifted 9 = .ok (.iaload, 1) := by decide +kernel
theorem nd_GM_shifted_10 : decode nc_GM_shifted 10 = .ok (.iconst 1, 1) := by decide +kernel
theorem nd_GM_shifted_11 : decode nc_GM_shifted 11 = .ok (.ishr, 1) := by decide +kernel
theorem nd_GM_shifted_12 : decode nc_GM_shifted 12 = .ok (.iconst 1, 1) := by decide +kernel
theorem nd_GM_shifted_13 : decode nc_GM_shifted 13 = .ok (.iand, 1) := by decide +kernel
theorem nd_GM_shifted_14 : decode nc_GM_shifted 14 = .ok (.putfield 179, 3) := by decide +kernel
theorem nd_GM_shifted_17 : decode nc_GM_shifted 17 = .ok (.iconst 0, 1) := by decide +kernel
theorem nd_GM_shifted_18 : decode nc_GM_shifted 18 = .ok (.istore 6, 2) := by decide +kernel
theorem nd_GM_shifted_20 : decode nc_GM_shifted 20 = .ok (.iload 6, 2) := by decide +kernel
theorem nd_GM_shifted_22 : decode nc_GM_shifted 22 = .ok (.iload_n 3, 1) := by decide +kernel
theorem nd_GM_shifted_23 : decode nc_GM_shifted 23 = .ok (.if_icmp .ge 80, 3) := by decide +kernel
theorem nd_GM_shifted_26 : decode nc_GM_shifted 26 = .ok (.aload_n 0, 1) := by decide +kernel
theorem nd_GM_shifted_27 : decode nc_GM_shifted 27 = .ok (.iload 4, 2) := by decide +kernel
theorem nd_GM_shifted_29 : decode nc_GM_shifted 29 = .ok (.ifCond .ne 11, 3) := by decide +kernel
theorem nd_GM_shifted_32 : decode nc_GM_shifted 32 = .ok (.iload 5, 2) := by decide +kernel
theorem nd_GM_shifted_34 : decode nc_GM_shifted 34 = .ok (.bipush 31, 2) := by decide +kernel
theorem nd_GM_shifted_36 : decode nc_GM_shifted 36 = .ok (.iushr, 1) := by decide +kernel
theorem nd_GM_shifted_37 : decode nc_GM_shifted 37 = .ok (.goto 7, 3) := by decide +kernel
theorem nd_GM_shifted_40 : decode nc_GM_shifted 40 = .ok (.iload 5, 2) := by decide +kernel
theorem nd_GM_shifted_42 : decode nc_GM_shifted 42 = .ok (.iconst 1, 1) := by decide +kernel
theorem nd_GM_shifted_43 : decode nc_GM_shifted 43 = .ok (.iand, 1) := by decide +kernel
theorem nd_GM_shifted_44 : decode nc_GM_shifted 44 = .ok (.putfield 179, 3) := by decide +kernel
theorem nd_GM_shifted_47 : decode nc_GM_shifted 47 = .ok (.iload 4, 2) := by decide +kernel
theorem nd_GM_shifted_49 : decode nc_GM_shifted 49 = .ok (.ifCond .ne 10, 3) := by decide +kernel
theorem nd_GM_shifted_52 : decode nc_GM_shifted 52 = .ok (.iload 5, 2) := by decide +kernel
theorem nd_GM_shifted_54 : decode nc_GM_shifted 54 = .ok (.iconst 1, 1) := by decide +kernel
theorem nd_GM_shifted_55 : decode nc_GM_shifted 55 = .ok (.ishl, 1) := by decide +kernel
theorem nd_GM_shifted_56 : decode nc_GM_shifted 56 = .ok (.goto 39, 3) := by decide +kernel
theorem nd_GM_shifted_59 : decode nc_GM_shifted 59 = .ok (.iload 4, 2) := by decide +kernel
theorem nd_GM_shifted_61 : decode nc_GM_shifted 61 = .ok (.iconst 1, 1) := by decide +kernel
theorem nd_GM_shifted_62 : decode nc_GM_shifted 62 = .ok (.if_icmp .ne 10, 3) := by decide +kernel
theorem nd_GM_shifted_65 : decode nc_GM_shifted 65 = .ok (.iload 5, 2) := by decide +kernel
theorem nd_GM_shifted_67 : decode nc_GM_shifted 67 = .ok (.iconst 1, 1) := by decide +kernel
theorem nd_GM_shifted_68 : decode nc_GM_shifted 68 = .ok (.iushr, 1) := by decide +kernel
theorem nd_GM_shifted_69 : decode nc_GM_shifted 69 = .ok (.goto 26, 3) := by decide +kernel
theorem nd_GM_shifted_72 : decode nc_GM_shifted 72 = .ok (.iload 4, 2) := by decide +kernel
theorem nd_GM_shifted_74 : decode nc_GM_shifted 74 = .ok (.iconst 2, 1) := by decide +kernel
theorem nd_GM_shifted_75 : decode nc_GM_shifted 75 = .ok (.if_icmp .ne 10, 3) := by decide +kernel
theorem nd_GM_shifted_78 : decode nc_GM_shifted 78 = .ok (.iload 5, 2) := by decide +kernel
theorem nd_GM_shifted_80 : decode nc_GM_shifted 80 = .ok (.iconst 1, 1) := by decide +kernel
theorem nd_GM_shifted_81 : decode nc_GM_shifted 81 = .ok (.ishr, 1) := by decide +kernel
theorem nd_GM_shifted_82 : decode nc_GM_shifted 82 = .ok (.goto 13, 3) := by decide +kernel
theorem nd_GM_shifted_85 : decode nc_GM_shifted 85 = .ok (.iload 5, 2) := by decide +kernel
theorem nd_GM_shifted_87 : decode nc_GM_shifted 87 = .ok (.iconst 1, 1) := by decide +kernel
theorem nd_GM_shifted_88 : decode nc_GM_shifted 88 = .ok (.iushr, 1) := by decide +kernel
theorem nd_GM_shifted_89 : decode nc_GM_shifted 89 = .ok (.iload 5, 2) := by decide +kernel
theorem nd_GM_shifted_91 : decode nc_GM_shifted 91 = .ok (.bipush 31, 2) := by decide +kernel
theorem nd_GM_shifted_93 : decode nc_GM_shifted 93 = .ok (.ishl, 1) := by decide +kernel
theorem nd_GM_shifted_94 : decode nc_GM_shifted 94 = .ok (.ior, 1) := by decide +kernel
theorem nd_GM_shifted_95 : decode nc_GM_shifted 95 = .ok (.istore 5, 2) := by decide +kernel
theorem nd_GM_shifted_97 : decode nc_GM_shifted 97 = .ok (.iinc 6 1, 3) := by decide +kernel
theorem nd_GM_shifted_100 : decode nc_GM_shifted 100 = .ok (.goto (-80), 3) := by decide +kernel
theorem nd_GM_shifted_103 : decode nc_GM_shifted 103 = .ok (.aload_n 0, 1) := by decide +kernel
theorem nd_GM_shifted_104 : decode nc_GM_shifted 104 = .ok (.iload_n 1, 1) := by decide +kernel
theorem nd_GM_shifted_105 : decode nc_GM_shifted 105 = .ok (.iload 5, 2) := by decide +kernel
theorem nd_GM_shifted_107 : decode nc_GM_shifted 107 = .ok (.invokevirtual 182, 3) := by decide +kernel
theorem nd_GM_shifted_110 : decode nc_GM_shifted 110 = .ok (.aload_n 0, 1) := by decide +kernel
theorem nd_GM_shifted_111 : decode nc_GM_shifted 111 = .ok (.iload_n 1, 1) := by decide +kernel
theorem nd_GM_shifted_112 : decode nc_GM_shifted 112 = .ok (.aload_n 0, 1) := by decide +kernel
theorem nd_GM_shifted_113 : decode nc_GM_shifted 113 = .ok (.getfield 179, 3) := by decide +kernel
theorem nd_GM_shifted_116 : decode nc_GM_shifted 116 = .ok (.invokevirtual 185, 3) := by decide +kernel
theorem nd_GM_shifted_119 : decode nc_GM_shifted 119 = .ok (.iload 5, 2) := by decide +kernel
theorem nd_GM_shifted_121 : decode nc_GM_shifted 121 = .ok (.ireturn, 1) := by decide +kernel
theorem nd_GM_calculate_0 : decode nc_GM_calculate 0 = .ok (.bipush 8, 2) := by decide +kernel
theorem nd_GM_calculate_2 : decode nc_GM_calculate 2 = .ok (.iload_n 1, 1) := by decide +kernel
theorem nd_GM_calculate_3 : decode nc_GM_calculate 3 = .ok (.imul, 1) := by decide +kernel
theorem nd_GM_calculate_4 : decode nc_GM_calculate 4 = .ok (.iload_n 2, 1) := by decide +kernel
theorem nd_GM_calculate_5 : decode nc_GM_calculate 5 = .ok (.bipush 7, 2) := by decide +kernel
theorem nd_GM_calculate_7 : decode nc_GM_calculate 7 = .ok (.iand, 1) := by decide +kernel
theorem nd_GM_calculate_8 : decode nc_GM_calculate 8 = .ok (.iadd, 1) := by decide +kernel
theorem nd_GM_calculate_9 : decode nc_GM_calculate 9 = .ok (.istore_n 3, 1) := by decide +kernel
theorem nd_GM_calculate_10 : decode nc_GM_calculate 10 = .ok (.aload_n 0, 1) := by decide +kernel
theorem nd_GM_calculate_11 : decode nc_GM_calculate 11 = .ok (.getfield 44, 3) := by decide +kernel
theorem nd_GM_calculate_14 : decode nc_GM_calculate 14 = .ok (.iload_n 3, 1) := by decide +kernel
theorem nd_GM_calculate_15 : decode nc_GM_calculate 15 = .ok (.iaload, 1) := by decide +kernel
theorem nd_GM_calculate_16 : decode nc_GM_calculate 16 = .ok (.istore 4, 2) := by decide +kernel
theorem nd_GM_calculate_18 : decode nc_GM_calculate 18 = .ok (.aload_n 0, 1) := by decide +kernel
theorem nd_GM_calculate_19 : decode nc_GM_calculate 19 = .ok (.getfield 44, 3) := by decide +kernel
theorem nd_GM_calculate_22 : decode nc_GM_calculate 22 = .ok (.bipush 8, 2) := by decide +kernel
theorem nd_GM_calculate_24 : decode nc_GM_calculate 24 = .ok (.iload_n 1, 1) := by decide +kernel
theorem nd_GM_calculate_25 : decode nc_GM_calculate 25 = .ok (.imul, 1) := by decide +kernel
theorem nd_GM_calculate_26 : decode nc_GM_calculate 26 = .ok (.iload_n 2, 1) := by decide +kernel
theorem nd_GM_calculate_27 : decode nc_GM_calculate 27 = .ok (.iconst 3, 1) := by decide +kernel
theorem nd_GM_calculate_28 : decode nc_GM_calculate 28 = .ok (.ishr, 1) := by decide +kernel
theorem nd_GM_calculate_29 : decode nc_GM_calculate 29 = .ok (.bipush 7, 2) := by decide +kernel
theorem nd_GM_calculate_31 : decode nc_GM_calculate 31 = .ok (.iand, 1) := by decide +kernel
theorem nd_GM_calculate_32 : decode nc_GM_calculate 32 = .ok (.iadd, 1) := by decide +kernel
theorem nd_GM_calculate_33 : decode nc_GM_calculate 33 = .ok (.iaload, 1) := by decide +kernel
theorem nd_GM_calculate_34 : decode nc_GM_calculate 34 = .ok (.istore 5, 2) := by decide +kernel
theorem nd_GM_calculate_36 : decode nc_GM_calculate 36 = .ok (.aload_n 0, 1) := by decide +kernel
theorem nd_GM_calculate_37 : decode nc_GM_calculate 37 = .ok (.getfield 56, 3) := by decide +kernel
theorem nd_GM_calculate_40 : decode nc_GM_calculate 40 = .ok (.iload_n 1, 1) := by decide +kernel
theorem nd_GM_calculate_41 : decode nc_GM_calculate 41 = .ok (.iaload, 1) := by decide +kernel
theorem nd_GM_calculate_42 : decode nc_GM_calculate 42 = .ok (.iconst 1, 1) := by decide +kernel
theorem nd_GM_calculate_43 : decode nc_GM_calculate 43 = .ok (.ishr, 1) := by decide +kernel
theorem nd_GM_calculate_44 : decode nc_GM_calculate 44 = .ok (.iconst 1, 1) := by decide +kernel
theorem nd_GM_calculate_45 : decode nc_GM_calculate 45 = .ok (.iand, 1) := by decide +kernel
theorem nd_GM_calculate_46 : decode nc_GM_calculate 46 = .ok (.istore 6, 2) := by decide +kernel
theorem nd_GM_calculate_48 : decode nc_GM_calculate 48 = .ok (.iload_n 2, 1) := by decide +kernel
theorem nd_GM_calculate_49 : decode nc_GM_calculate 49 = .ok (.bipush 6, 2) := by decide +kernel
theorem nd_GM_calculate_51 : decode nc_GM_calculate 51 = .ok (.ishr, 1) := by decide +kernel
theorem nd_GM_calculate_52 : decode nc_GM_calculate 52 = .ok (.bipush 15, 2) := by decide +kernel
theorem nd_GM_calculate_54 : decode nc_GM_calculate 54 = .ok (.iand, 1) := by decide +kernel
theorem nd_GM_calculate_55 : decode nc_GM_calculate 55 = .ok (.istore 7, 2) := by decide +kernel
theorem nd_GM_calculate_57 : decode nc_GM_calculate 57 = .ok (.iload 7, 2) := by decide +kernel
theorem nd_GM_calculate_59 : decode nc_GM_calculate 59 = .ok (.iconst 2, 1) := by decide +kernel
theorem nd_GM_calculate_60 : decode nc_GM_calculate 60 = .ok (.if_icmp .eq 22, 3) := by decide +kernel
theorem nd_GM_calculate_63 : decode nc_GM_calculate 63 = .ok (.iload 7, 2) := by decide +kernel
theorem nd_GM_calculate_65 : decode nc_GM_calculate 65 = .ok (.iconst 3, 1) := by decide +kernel
theorem nd_GM_calculate_66 : decode nc_GM_calculate 66 = .ok (.if_icmp .eq 16, 3) := by decide +kernel
theorem nd_GM_calculate_69 : decode nc_GM_calculate 69 = .ok (.iload 7, 2) := by decide +kernel
theorem nd_GM_calculate_71 : decode nc_GM_calculate 71 = .ok (.iconst 4, 1) := by decide +kernel
theorem nd_GM_calculate_72 : decode nc_GM_calculate 72 = .ok (.if_icmp .eq 10, 3) := by decide +kernel
theorem nd_GM_calculate_75 : decode nc_GM_calculate 75 = .ok (.iload 7, 2) := by decide +kernel
theorem nd_GM_calculate_77 : decode nc_GM_calculate 77 = .ok (.bipush 7, 2) := by decide +kernel
theorem nd_GM_calculate_79 : decode nc_GM_calculate 79 = .ok (.if_icmp .ne 40, 3) := by decide +kernel
theorem nd_GM_calculate_82 : decode nc_GM_calculate 82 = .ok (.aload_n 0, 1) := by decide +kernel
theorem nd_GM_calculate_83 : decode nc_GM_calculate 83 = .ok (.getfield 44, 3) := by decide +kernel
theorem nd_GM_calculate_86 : decode nc_GM_calculate 86 = .ok (.iload_n 3, 1) := by decide +kernel
theorem nd_GM_calculate_87 : decode nc_GM_calculate 87 = .ok (.aload_n 0, 1) := by decide +kernel
theorem nd_GM_calculate_88 : decode nc_GM_calculate 88 = .ok (.iload_n 1, 1) := by decide +kernel
theorem nd_GM_calculate_89 : decode nc_GM_calculate 89 = .ok (.iload 4, 2) := by decide +kernel
theorem nd_GM_calculate_91 : decode nc_GM_calculate 91 = .ok (.iload 5, 2) := by decide +kernel
theorem nd_GM_calculate_93 : decode nc_GM_calculate 93 = .ok (.sipush 255, 3) := by decide +kernel
theorem nd_GM_calculate_96 : decode nc_GM_calculate 96 = .ok (.iand, 1) := by decide +kernel
theorem nd_GM_calculate_97 : decode nc_GM_calculate 97 = .ok (.iload 7, 2) := by decide +kernel
theorem nd_GM_calculate_99 : decode nc_GM_calculate 99 = .ok (.bipush 7, 2) := by decide +kernel
theorem nd_GM_calculate_101 : decode nc_GM_calculate 101 = .ok (.if_icmp .ne 7, 3) := by decide +kernel
theorem nd_GM_calculate_104 : decode nc_GM_calculate 104 = .ok (.iconst 3, 1) := by decide +kernel
theorem nd_GM_calculate_105 : decode nc_GM_calculate 105 = .ok (.goto 7, 3) := by decide +kernel
theorem nd_GM_calculate_108 : decode nc_GM_calculate 108 = .ok (.iload 7, 2) := by decide +kernel
theorem nd_GM_calculate_110 : decode nc_GM_calculate 110 = .ok (.iconst 2, 1) := by decide +kernel
theorem nd_GM_calculate_111 : decode nc_GM_calculate 111 = .ok (.isub, 1) := by decide +kernel
theorem nd_GM_calculate_112 : decode nc_GM_calculate 112 = .ok (.invokevirtual 188, 3) := by decide +kernel
theorem nd_GM_calculate_115 : decode nc_GM_calculate 115 = .ok (.iastore, 1) := by decide +kernel
theorem nd_GM_calculate_116 : decode nc_GM_calculate 116 = .ok (.goto 243, 3) := by decide +kernel
theorem nd_GM_calculate_119 : decode nc_GM_calculate 119 = .ok (.iload 7, 2) := by decide +kernel
theorem nd_GM_calculate_121 : decode nc_GM_calculate 121 = .ok (.iconst 5, 1) := by decide +kernel
theorem nd_GM_calculate_122 : decode nc_GM_calculate 122 = .ok (.if_icmp .eq 10, 3) := by decide +kernel
theorem nd_GM_calculate_125 : decode nc_GM_calculate 125 = .ok (.iload 7, 2) := by decide +kernel
theorem nd_GM_calculate_127 : decode nc_GM_calculate 127 = .ok (.bipush 6, 2) := by decide +kernel
theorem nd_GM_calculate_129 : decode nc_GM_calculate 129 = .ok (.if_icmp .ne 36, 3) := by decide +kernel
theorem nd_GM_calculate_132 : decode nc_GM_calculate 132 = .ok (.aload_n 0, 1) := by decide +kernel
theorem nd_GM_calculate_133 : decode nc_GM_calculate 133 = .ok (.getfield 44, 3) := by decide +kernel
theorem nd_GM_calculate_136 : decode nc_GM_calculate 136 = .ok (.iload_n 3, 1) := by decide +kernel
theorem nd_GM_calculate_137 : decode nc_GM_calculate 137 = .ok (.aload_n 0, 1) := by decide +kernel
theorem nd_GM_calculate_138 : decode nc_GM_calculate 138 = .ok (.iload_n 1, 1) := by decide +kernel
theorem nd_GM_calculate_139 : decode nc_GM_calculate 139 = .ok (.iload 4, 2) := by decide +kernel
theorem nd_GM_calculate_141 : decode nc_GM_calculate 141 = .ok (.iload 7, 2) := by decide +kernel
theorem nd_GM_calculate_143 : decode nc_GM_calculate 143 = .ok (.iconst 5, 1) := by decide +kernel
theorem nd_GM_calculate_144 : decode nc_GM_calculate 144 = .ok (.if_icmp .ne 8, 3) := by decide +kernel
theorem nd_GM_calculate_147 : decode nc_GM_calculate 147 = .ok (.iload 5, 2) := by decide +kernel
theorem nd_GM_calculate_149 : decode nc_GM_calculate 149 = .ok (.goto 7, 3) := by decide +kernel
theorem nd_GM_calculate_152 : decode nc_GM_calculate 152 = .ok (.iload 5, 2) := by decide +kernel
theorem nd_GM_calculate_154 : decode nc_GM_calculate 154 = .ok (.iconst (-1), 1) := by decide +kernel
theorem nd_GM_calculate_155 : decode nc_GM_calculate 155 = .ok (.ixor, 1) := by decide +kernel
theorem nd_GM_calculate_156 : decode nc_GM_calculate 156 = .ok (.iload 6, 2) := by decide +kernel
theorem nd_GM_calculate_158 : decode nc_GM_calculate 158 = .ok (.invokevirtual 192, 3) := by decide +kernel
theorem nd_GM_calculate_161 : decode nc_GM_calculate 161 = .ok (.iastore, 1) := by decide +kernel
theorem nd_GM_calculate_162 : decode nc_GM_calculate 162 = .ok (.goto 197, 3) := by decide +kernel
theorem nd_GM_calculate_165 : decode nc_GM_calculate 165 = .ok (.iload 7, 2) := by decide +kernel
theorem nd_GM_calculate_167 : decode nc_GM_calculate 167 = .ok (.bipush 9, 2) := by decide +kernel
theorem nd_GM_calculate_169 : decode nc_GM_calculate 169 = .ok (.if_icmp .ne 23, 3) := by decide +kernel
theorem nd_GM_calculate_172 : decode nc_GM_calculate 172 = .ok (.aload_n 0, 1) := by decide +kernel
theorem nd_GM_calculate_173 : decode nc_GM_calculate 173 = .ok (.getfield 44, 3) := by decide +kernel
theorem nd_GM_calculate_176 : decode nc_GM_calculate 176 = .ok (.iload_n 3, 1) := by decide +kernel
theorem nd_GM_calculate_177 : decode nc_GM_calculate 177 = .ok (.aload_n 0, 1) := by decide +kernel
theorem nd_GM_calculate_178 : decode nc_GM_calculate 178 = .ok (.iload_n 1, 1) := by decide +kernel
theorem nd_GM_calculate_179 : decode nc_GM_calculate 179 = .ok (.iconst 0, 1) := by decide +kernel
theorem nd_GM_calculate_180 : decode nc_GM_calculate 180 = .ok (.iload 5, 2) := by decide +kernel
theorem nd_GM_calculate_182 : decode nc_GM_calculate 182 = .ok (.iconst (-1), 1) := by decide +kernel
theorem nd_GM_calculate_183 : decode nc_GM_calculate 183 = .ok (.ixor, 1) := by decide +kernel
theorem nd_GM_calculate_184 : decode nc_GM_calculate 184 = .ok (.iconst 1, 1) := by decide +kernel
theorem nd_GM_calculate_185 : decode nc_GM_calculate 185 = .ok (.invokevirtual 192, 3) := by decide +kernel
theorem nd_GM_calculate_188 : decode nc_GM_calculate 188 = .ok (.iastore, 1) := by decide +kernel
theorem nd_GM_calculate_189 : decode nc_GM_calculate 189 = .ok (.goto 170, 3) := by decide +kernel
theorem nd_GM_calculate_192 : decode nc_GM_calculate 192 = .ok (.iload 7, 2) := by decide +kernel
theorem nd_GM_calculate_194 : decode nc_GM_calculate 194 = .ok (.bipush 10, 2) := by decide +kernel
theorem nd_GM_calculate_196 : decode nc_GM_calculate 196 = .ok (.if_icmp .eq 10, 3) := by decide +kernel
theorem nd_GM_calculate_199 : decode nc_GM_calculate 199 = .ok (.iload 7, 2) := by decide +kernel
theorem nd_GM_calculate_201 : decode nc_GM_calculate 201 = .ok (.bipush 11, 2) := by decide +kernel
theorem nd_GM_calculate_203 : decode nc_GM_calculate 203 = .ok (.if_icmp .ne 42, 3) := by decide +kernel
theorem nd_GM_calculate_206 : decode nc_GM_calculate 206 = .ok (.aload_n 0, 1) := by decide +kernel
theorem nd_GM_calculate_207 : decode nc_GM_calculate 207 = .ok (.iload_n 1, 1) := by decide +kernel
theorem nd_GM_calculate_208 : decode nc_GM_calculate 208 = .ok (.iload 4, 2) := by decide +kernel
theorem nd_GM_calculate_210 : decode nc_GM_calculate 210 = .ok (.iload 7, 2) := by decide +kernel
theorem nd_GM_calculate_212 : decode nc_GM_calculate 212 = .ok (.bipush 10, 2) := by decide +kernel
theorem nd_GM_calculate_214 : decode nc_GM_calculate 214 = .ok (.if_icmp .ne 10, 3) := by decide +kernel
theorem nd_GM_calculate_217 : decode nc_GM_calculate 217 = .ok (.iload 5, 2) := by decide +kernel
theorem nd_GM_calculate_219 : decode nc_GM_calculate 219 = .ok (.iconst (-1), 1) := by decide +kernel
theorem nd_GM_calculate_220 : decode nc_GM_calculate 220 = .ok (.ixor, 1) := by decide +kernel
theorem nd_GM_calculate_221 : decode nc_GM_calculate 221 = .ok (.goto 5, 3) := by decide +kernel
theorem nd_GM_calculate_224 : decode nc_GM_calculate 224 = .ok (.iload 5, 2) := by decide +kernel
theorem nd_GM_calculate_226 : decode nc_GM_calculate 226 = .ok (.iload 7, 2) := by decide +kernel
theorem nd_GM_calculate_228 : decode nc_GM_calculate 228 = .ok (.bipush 10, 2) := by decide +kernel
theorem nd_GM_calculate_230 : decode nc_GM_calculate 230 = .ok (.if_icmp .ne 7, 3) := by decide +kernel
theorem nd_GM_calculate_233 : decode nc_GM_calculate 233 = .ok (.iconst 1, 1) := by decide +kernel
theorem nd_GM_calculate_234 : decode nc_GM_calculate 234 = .ok (.goto 4, 3) := by decide +kernel
theorem nd_GM_calculate_237 : decode nc_GM_calculate 237 = .ok (.iconst 0, 1) := by decide +kernel
theorem nd_GM_calculate_238 : decode nc_GM_calculate 238 = .ok (.invokevirtual 192, 3) := by decide +kernel
theorem nd_GM_calculate_241 : decode nc_GM_calculate 241 = .ok (.pop, 1) := by decide +kernel
theorem nd_GM_calculate_242 : decode nc_GM_calculate 242 = .ok (.goto 117, 3) := by decide +kernel
theorem nd_GM_calculate_245 : decode nc_GM_calculate 245 = .ok (.iload 7, 2) := by decide +kernel
theorem nd_GM_calculate_247 : decode nc_GM_calculate 247 = .ok (.ifCond .eq 10, 3) := by decide +kernel
theorem nd_GM_calculate_250 : decode nc_GM_calculate 250 = .ok (.iload 7, 2) := by decide +kernel
theorem nd_GM_calculate_252 : decode nc_GM_calculate 252 = .ok (.bipush 8, 2) := by decide +kernel
theorem nd_GM_calculate_254 : decode nc_GM_calculate 254 = .ok (.if_icmp .ne 11, 3) := by decide +kernel
theorem nd_GM_calculate_257 : decode nc_GM_calculate 257 = .ok (.iload 4, 2) := by decide +kernel
theorem nd_GM_calculate_259 : decode nc_GM_calculate 259 = .ok (.iload 5, 2) := by decide +kernel
theorem nd_GM_calculate_261 : decode nc_GM_calculate 261 = .ok (.iand, 1) := by decide +kernel
theorem nd_GM_calculate_262 : decode nc_GM_calculate 262 = .ok (.goto 68, 3) := by decide +kernel
theorem nd_GM_calculate_265 : decode nc_GM_calculate 265 = .ok (.iload 7, 2) := by decide +kernel
theorem nd_GM_calculate_267 : decode nc_GM_calculate 267 = .ok (.iconst 1, 1) := by decide +kernel
theorem nd_GM_calculate_268 : decode nc_GM_calculate 268 = .ok (.if_icmp .ne 11, 3) := by decide +kernel
theorem nd_GM_calculate_271 : decode nc_GM_calculate 271 = .ok (.iload 4, 2) := by decide +kernel
theorem nd_GM_calculate_273 : decode nc_GM_calculate 273 = .ok (.iload 5, 2) := by decide +kernel
theorem nd_GM_calculate_275 : decode nc_GM_calculate 275 = .ok (.ixor, 1) := by decide +kernel
theorem nd_GM_calculate_276 : decode nc_GM_calculate 276 = .ok (.goto 54, 3) := by decide +kernel
theorem nd_GM_calculate_279 : decode nc_GM_calculate 279 = .ok (.iload 7, 2) := by decide +kernel
theorem nd_GM_calculate_281 : decode nc_GM_calculate 281 = .ok (.bipush 12, 2) := by decide +kernel
theorem nd_GM_calculate_283 : decode nc_GM_calculate 283 = .ok (.if_icmp .ne 11, 3) := by decide +kernel
theorem nd_GM_calculate_286 : decode nc_GM_calculate 286 = .ok (.iload 4, 2) := by decide +kernel
theorem nd_GM_calculate_288 : decode nc_GM_calculate 288 = .ok (.iload 5, 2) := by decide +kernel
theorem nd_GM_calculate_290 : decode nc_GM_calculate 290 = .ok (.ior, 1) := by decide +kernel
theorem nd_GM_calculate_291 : decode nc_GM_calculate 291 = .ok (.goto 39, 3) := by decide +kernel
theorem nd_GM_calculate_294 : decode nc_GM_calculate 294 = .ok (.iload 7, 2) := by decide +kernel
theorem nd_GM_calculate_296 : decode nc_GM_calculate 296 = .ok (.bipush 13, 2) := by decide +kernel
theorem nd_GM_calculate_298 : decode nc_GM_calculate 298 = .ok (.if_icmp .ne 11, 3) := by decide +kernel
theorem nd_GM_calculate_301 : decode nc_GM_calculate 301 = .ok (.iload 4, 2) := by decide +kernel
theorem nd_GM_calculate_303 : decode nc_GM_calculate 303 = .ok (.iload 5, 2) := by decide +kernel
theorem nd_GM_calculate_305 : decode nc_GM_calculate 305 = .ok (.imul, 1) := by decide +kernel
theorem nd_GM_calculate_306 : decode nc_GM_calculate 306 = .ok (.goto 24, 3) := by decide +kernel
theorem nd_GM_calculate_309 : decode nc_GM_calculate 309 = .ok (.iload 7, 2) := by decide +kernel
theorem nd_GM_calculate_311 : decode nc_GM_calculate 311 = .ok (.bipush 14, 2) := by decide +kernel
theorem nd_GM_calculate_313 : decode nc_GM_calculate 313 = .ok (.if_icmp .ne 13, 3) := by decide +kernel
theorem nd_GM_calculate_316 : decode nc_GM_calculate 316 = .ok (.iload 4, 2) := by decide +kernel
theorem nd_GM_calculate_318 : decode nc_GM_calculate 318 = .ok (.iload 5, 2) := by decide +kernel
theorem nd_GM_calculate_320 : decode nc_GM_calculate 320 = .ok (.iconst (-1), 1) := by decide +kernel
theorem nd_GM_calculate_321 : decode nc_GM_calculate 321 = .ok (.ixor, 1) := by decide +kernel
theorem nd_GM_calculate_322 : decode nc_GM_calculate 322 = .ok (.iand, 1) := by decide +kernel
theorem nd_GM_calculate_323 : decode nc_GM_calculate 323 = .ok (.goto 7, 3) := by decide +kernel
theorem nd_GM_calculate_326 : decode nc_GM_calculate 326 = .ok (.iload 5, 2) := by decide +kernel
theorem nd_GM_calculate_328 : decode nc_GM_calculate 328 = .ok (.iconst (-1), 1) := by decide +kernel
theorem nd_GM_calculate_329 : decode nc_GM_calculate 329 = .ok (.ixor, 1) := by decide +kernel
theorem nd_GM_calculate_330 : decode nc_GM_calculate 330 = .ok (.istore 8, 2) := by decide +kernel
theorem nd_GM_calculate_332 : decode nc_GM_calculate 332 = .ok (.aload_n 0, 1) := by decide +kernel
theorem nd_GM_calculate_333 : decode nc_GM_calculate 333 = .ok (.getfield 44, 3) := by decide +kernel
theorem nd_GM_calculate_336 : decode nc_GM_calculate 336 = .ok (.iload_n 3, 1) := by decide +kernel
theorem nd_GM_calculate_337 : decode nc_GM_calculate 337 = .ok (.iload 7, 2) := by decide +kernel
theorem nd_GM_calculate_339 : decode nc_GM_calculate 339 = .ok (.bipush 8, 2) := by decide +kernel
theorem nd_GM_calculate_341 : decode nc_GM_calculate 341 = .ok (.if_icmp .ne 8, 3) := by decide +kernel
theorem nd_GM_calculate_344 : decode nc_GM_calculate 344 = .ok (.iload 4, 2) := by decide +kernel
theorem nd_GM_calculate_346 : decode nc_GM_calculate 346 = .ok (.goto 5, 3) := by decide +kernel
theorem nd_GM_calculate_349 : decode nc_GM_calculate 349 = .ok (.iload 8, 2) := by decide +kernel
theorem nd_GM_calculate_351 : decode nc_GM_calculate 351 = .ok (.iastore, 1) := by decide +kernel
theorem nd_GM_calculate_352 : decode nc_GM_calculate 352 = .ok (.aload_n 0, 1) := by decide +kernel
theorem nd_GM_calculate_353 : decode nc_GM_calculate 353 = .ok (.iload_n 1, 1) := by decide +kernel
theorem nd_GM_calculate_354 : decode nc_GM_calculate 354 = .ok (.iload 8, 2) := by decide +kernel
theorem nd_GM_calculate_356 : decode nc_GM_calculate 356 = .ok (.invokevirtual 182, 3) := by decide +kernel
theorem nd_GM_calculate_359 : decode nc_GM_calculate 359 = .ok (.return_, 1) := by decide +kernel
theorem nd_GM_immediate_0 : decode nc_GM_immediate 0 = .ok (.bipush 8, 2) := by decide +kernel
theorem nd_GM_immediate_2 : decode nc_GM_immediate 2 = .ok (.iload_n 1, 1) := by decide +kernel
theorem nd_GM_immediate_3 : decode nc_GM_immediate 3 = .ok (.imul, 1) := by decide +kernel
theorem nd_GM_immediate_4 : decode nc_GM_immediate 4 = .ok (.iload_n 2, 1) := by decide +kernel
theorem nd_GM_immediate_5 : decode nc_GM_immediate 5 = .ok (.bipush 8, 2) := by decide +kernel
theorem nd_GM_immediate_7 : decode nc_GM_immediate 7 = .ok (.ishr, 1) := by decide +kernel
theorem nd_GM_immediate_8 : decode nc_GM_immediate 8 = .ok (.bipush 7, 2) := by decide +kernel
theorem nd_GM_immediate_10 : decode nc_GM_immediate 10 = .ok (.iand, 1) := by decide +kernel
theorem nd_GM_immediate_11 : decode nc_GM_immediate 11 = .ok (.iadd, 1) := by decide +kernel
theorem nd_GM_immediate_12 : decode nc_GM_immediate 12 = .ok (.istore_n 3, 1) := by decide +kernel
theorem nd_GM_immediate_13 : decode nc_GM_immediate 13 = .ok (.iload_n 2, 1) := by decide +kernel
theorem nd_GM_immediate_14 : decode nc_GM_immediate 14 = .ok (.sipush 255, 3) := by decide +kernel
theorem nd_GM_immediate_17 : decode nc_GM_immediate 17 = .ok (.iand, 1) := by decide +kernel
theorem nd_GM_immediate_18 : decode nc_GM_immediate 18 = .ok (.istore 4, 2) := by decide +kernel
theorem nd_GM_immediate_20 : decode nc_GM_immediate 20 = .ok (.iload_n 2, 1) := by decide +kernel
theorem nd_GM_immediate_21 : decode nc_GM_immediate 21 = .ok (.bipush 11, 2) := by decide +kernel
theorem nd_GM_immediate_23 : decode nc_GM_immediate 23 = .ok (.ishr, 1) := by decide +kernel
theorem nd_GM_immediate_24 : decode nc_GM_immediate 24 = .ok (.istore 5, 2) := by decide +kernel
theorem nd_GM_immediate_26 : decode nc_GM_immediate 26 = .ok (.iload 5, 2) := by decide +kernel
theorem nd_GM_immediate_28 : decode nc_GM_immediate 28 = .ok (.iconst 4, 1) := by decide +kernel
theorem nd_GM_immediate_29 : decode nc_GM_immediate 29 = .ok (.if_icmp .ne 8, 3) := by decide +kernel
theorem nd_GM_immediate_32 : decode nc_GM_immediate 32 = .ok (.iload 4, 2) := by decide +kernel
theorem nd_GM_immediate_34 : decode nc_GM_immediate 34 = .ok (.goto 42, 3) := by decide +kernel
theorem nd_GM_immediate_37 : decode nc_GM_immediate 37 = .ok (.aload_n 0, 1) := by decide +kernel
theorem nd_GM_immediate_38 : decode nc_GM_immediate 38 = .ok (.iload_n 1, 1) := by decide +kernel
theorem nd_GM_immediate_39 : decode nc_GM_immediate 39 = .ok (.aload_n 0, 1) := by decide +kernel
theorem nd_GM_immediate_40 : decode nc_GM_immediate 40 = .ok (.getfield 44, 3) := by decide +kernel
theorem nd_GM_immediate_43 : decode nc_GM_immediate 43 = .ok (.iload_n 3, 1) := by decide +kernel
theorem nd_GM_immediate_44 : decode nc_GM_immediate 44 = .ok (.iaload, 1) := by decide +kernel
theorem nd_GM_immediate_45 : decode nc_GM_immediate 45 = .ok (.iload 5, 2) := by decide +kernel
theorem nd_GM_immediate_47 : decode nc_GM_immediate 47 = .ok (.bipush 6, 2) := by decide +kernel
theorem nd_GM_immediate_49 : decode nc_GM_immediate 49 = .ok (.if_icmp .ne 8, 3) := by decide +kernel
theorem nd_GM_immediate_52 : decode nc_GM_immediate 52 = .ok (.iload 4, 2) := by decide +kernel
theorem nd_GM_immediate_54 : decode nc_GM_immediate 54 = .ok (.goto 7, 3) := by decide +kernel
theorem nd_GM_immediate_57 : decode nc_GM_immediate 57 = .ok (.iload 4, 2) := by decide +kernel
theorem nd_GM_immediate_59 : decode nc_GM_immediate 59 = .ok (.iconst (-1), 1) := by decide +kernel
theorem nd_GM_immediate_60 : decode nc_GM_immediate 60 = .ok (.ixor, 1) := by decide +kernel
theorem nd_GM_immediate_61 : decode nc_GM_immediate 61 = .ok (.iload 5, 2) := by decide +kernel
theorem nd_GM_immediate_63 : decode nc_GM_immediate 63 = .ok (.bipush 6, 2) := by decide +kernel
theorem nd_GM_immediate_65 : decode nc_GM_immediate 65 = .ok (.if_icmp .ne 7, 3) := by decide +kernel
theorem nd_GM_immediate_68 : decode nc_GM_immediate 68 = .ok (.iconst 0, 1) := by decide +kernel
theorem nd_GM_immediate_69 : decode nc_GM_immediate 69 = .ok (.goto 4, 3) := by decide +kernel
theorem nd_GM_immediate_72 : decode nc_GM_immediate 72 = .ok (.iconst 1, 1) := by decide +kernel
theorem nd_GM_immediate_73 : decode nc_GM_immediate 73 = .ok (.invokevirtual 192, 3) := by decide +kernel
theorem nd_GM_immediate_76 : decode nc_GM_immediate 76 = .ok (.istore 6, 2) := by decide +kernel
theorem nd_GM_immediate_78 : decode nc_GM_immediate 78 = .ok (.iload 5, 2) := by decide +kernel
theorem nd_GM_immediate_80 : decode nc_GM_immediate 80 = .ok (.iconst 4, 1) := by decide +kernel
theorem nd_GM_immediate_81 : decode nc_GM_immediate 81 = .ok (.if_icmp .ne 10, 3) := by decide +kernel
theorem nd_GM_immediate_84 : decode nc_GM_immediate 84 = .ok (.aload_n 0, 1) := by decide +kernel
theorem nd_GM_immediate_85 : decode nc_GM_immediate 85 = .ok (.iload_n 1, 1) := by decide +kernel
theorem nd_GM_immediate_86 : decode nc_GM_immediate 86 = .ok (.iload 4, 2) := by decide +kernel
theorem nd_GM_immediate_88 : decode nc_GM_immediate 88 = .ok (.invokevirtual 182, 3) := by decide +kernel
theorem nd_GM_immediate_91 : decode nc_GM_immediate 91 = .ok (.aload_n 0, 1) := by decide +kernel
theorem nd_GM_immediate_92 : decode nc_GM_immediate 92 = .ok (.getfield 44, 3) := by decide +kernel
theorem nd_GM_immediate_95 : decode nc_GM_immediate 95 = .ok (.iload_n 3, 1) := by decide +kernel
theorem nd_GM_immediate_96 : decode nc_GM_immediate 96 = .ok (.iload 5, 2) := by decide +kernel
theorem nd_GM_immediate_98 : decode nc_GM_immediate 98 = .ok (.iconst 5, 1) := by decide +kernel
theorem nd_GM_immediate_99 : decode nc_GM_immediate 99 = .ok (.if_icmp .ne 12, 3) := by decide +kernel
theorem nd_GM_immediate_102 : decode nc_GM_immediate 102 = .ok (.aload_n 0, 1) := by decide +kernel
theorem nd_GM_immediate_103 : decode nc_GM_immediate 103 = .ok (.getfield 44, 3) := by decide +kernel
theorem nd_GM_immediate_106 : decode nc_GM_immediate 106 = .ok (.iload_n 3, 1) := by decide +kernel
theorem nd_GM_immediate_107 : decode nc_GM_immediate 107 = .ok (.iaload, 1) := by decide +kernel
theorem nd_GM_immediate_108 : decode nc_GM_immediate 108 = .ok (.goto 5, 3) := by decide +kernel
theorem nd_GM_immediate_111 : decode nc_GM_immediate 111 = .ok (.iload 6, 2) := by decide +kernel
theorem nd_GM_immediate_113 : decode nc_GM_immediate 113 = .ok (.iastore, 1) := by decide +kernel
theorem nd_GM_immediate_114 : decode nc_GM_immediate 114 = .ok (.return_, 1) := by decide +kernel
theorem nd_GM_addOrTake_0 : decode nc_GM_addOrTake 0 = .ok (.aload_n 0, 1) := by decide +kernel
theorem nd_GM_addOrTake_1 : decode nc_GM_addOrTake 1 = .ok (.getfield 44, 3) := by decide +kernel
theorem nd_GM_addOrTake_4 : decode nc_GM_addOrTake 4 = .ok (.bipush 8, 2) := by decide +kernel
theorem nd_GM_addOrTake_6 : decode nc_GM_addOrTake 6 = .ok (.iload_n 1, 1) := by decide +kernel
theorem nd_GM_addOrTake_7 : decode nc_GM_addOrTake 7 = .ok (.imul, 1) := by decide +kernel
theorem nd_GM_addOrTake_8 : decode nc_GM_addOrTake 8 = .ok (.iload_n 2, 1) := by decide +kernel
theorem nd_GM_addOrTake_9 : decode nc_GM_addOrTake 9 = .ok (.iconst 3, 1) := by decide +kernel
theorem nd_GM_addOrTake_10 : decode nc_GM_addOrTake 10 = .ok (.ishr, 1) := by decide +kernel
theorem nd_GM_addOrTake_11 : decode nc_GM_addOrTake 11 = .ok (.bipush 7, 2) := by decide +kernel
theorem nd_GM_addOrTake_13 : decode nc_GM_addOrTake 13 = .ok (.iand, 1) := by decide +kernel
theorem nd_GM_addOrTake_14 : decode nc_GM_addOrTake 14 = .ok (.iadd, 1) := by decide +kernel
theorem nd_GM_addOrTake_15 : decode nc_GM_addOrTake 15 = .ok (.iaload, 1) := by decide +kernel
theorem nd_GM_addOrTake_16 : decode nc_GM_addOrTake 16 = .ok (.istore_n 3, 1) := by decide +kernel
theorem nd_GM_addOrTake_17 : decode nc_GM_addOrTake 17 = .ok (.iload_n 2, 1) := by decide +kernel
theorem nd_GM_addOrTake_18 : decode nc_GM_addOrTake 18 = .ok (.bipush 6, 2) := by decide +kernel
theorem nd_GM_addOrTake_20 : decode nc_GM_addOrTake 20 = .ok (.ishr, 1) := by decide +kernel
theorem nd_GM_addOrTake_21 : decode nc_GM_addOrTake 21 = .ok (.bipush 7, 2) := by decide +kernel
theorem nd_GM_addOrTake_23 : decode nc_GM_addOrTake 23 = .ok (.iand, 1) := by decide +kernel
theorem nd_GM_addOrTake_24 : decode nc_GM_addOrTake 24 = .ok (.istore 4, 2) := by decide +kernel
theorem nd_GM_addOrTake_26 : decode nc_GM_addOrTake 26 = .ok (.iload_n 2, 1) := by decide +kernel
theorem nd_GM_addOrTake_27 : decode nc_GM_addOrTake 27 = .ok (.bipush 10, 2) := by decide +kernel
theorem nd_GM_addOrTake_29 : decode nc_GM_addOrTake 29 = .ok (.ishr, 1) := by decide +kernel
theorem nd_GM_addOrTake_30 : decode nc_GM_addOrTake 30 = .ok (.iconst 1, 1) := by decide +kernel
theorem nd_GM_addOrTake_31 : decode nc_GM_addOrTake 31 = .ok (.iand, 1) := by decide +kernel
theorem nd_GM_addOrTake_32 : decode nc_GM_addOrTake 32 = .ok (.iconst 1, 1) := by decide +kernel
theorem nd_GM_addOrTake_33 : decode nc_GM_addOrTake 33 = .ok (.if_icmp .ne 8, 3) := by decide +kernel
theorem nd_GM_addOrTake_36 : decode nc_GM_addOrTake 36 = .ok (.iload 4, 2) := by decide +kernel
theorem nd_GM_addOrTake_38 : decode nc_GM_addOrTake 38 = .ok (.goto 15, 3) := by decide +kernel
theorem nd_GM_addOrTake_41 : decode nc_GM_addOrTake 41 = .ok (.aload_n 0, 1) := by decide +kernel
theorem nd_GM_addOrTake_42 : decode nc_GM_addOrTake 42 = .ok (.getfield 44, 3) := by decide +kernel
theorem nd_GM_addOrTake_45 : decode nc_GM_addOrTake 45 = .ok (.bipush 8, 2) := by decide +kernel
theorem nd_GM_addOrTake_47 : decode nc_GM_addOrTake 47 = .ok (.iload_n 1, 1) := by decide +kernel
theorem nd_GM_addOrTake_48 : decode nc_GM_addOrTake 48 = .ok (.imul, 1) := by decide +kernel
theorem nd_GM_addOrTake_49 : decode nc_GM_addOrTake 49 = .ok (.iload 4, 2) := by decide +kernel
theorem nd_GM_addOrTake_51 : decode nc_GM_addOrTake 51 = .ok (.iadd, 1) := by decide +kernel
theorem nd_GM_addOrTake_52 : decode nc_GM_addOrTake 52 = .ok (.iaload, 1) := by decide +kernel
theorem nd_GM_addOrTake_53 : decode nc_GM_addOrTake 53 = .ok (.istore 5, 2) := by decide +kernel
theorem nd_GM_addOrTake_55 : decode nc_GM_addOrTake 55 = .ok (.iload_n 2, 1) := by decide +kernel
theorem nd_GM_addOrTake_56 : decode nc_GM_addOrTake 56 = .ok (.bipush 9, 2) := by decide +kernel
theorem nd_GM_addOrTake_58 : decode nc_GM_addOrTake 58 = .ok (.ishr, 1) := by decide +kernel
theorem nd_GM_addOrTake_59 : decode nc_GM_addOrTake 59 = .ok (.iconst 1, 1) := by decide +kernel
theorem nd_GM_addOrTake_60 : decode nc_GM_addOrTake 60 = .ok (.iand, 1) := by decide +kernel
theorem nd_GM_addOrTake_61 : decode nc_GM_addOrTake 61 = .ok (.iconst 1, 1) := by decide +kernel
theorem nd_GM_addOrTake_62 : decode nc_GM_addOrTake 62 = .ok (.if_icmp .ne 7, 3) := by decide +kernel
theorem nd_GM_addOrTake_65 : decode nc_GM_addOrTake 65 = .ok (.iconst 1, 1) := by decide +kernel
theorem nd_GM_addOrTake_66 : decode nc_GM_addOrTake 66 = .ok (.goto 4, 3) := by decide +kernel
theorem nd_GM_addOrTake_69 : decode nc_GM_addOrTake 69 = .ok (.iconst 0, 1) := by decide +kernel
theorem nd_GM_addOrTake_70 : decode nc_GM_addOrTake 70 = .ok (.istore 6, 2) := by decide +kernel
theorem nd_GM_addOrTake_72 : decode nc_GM_addOrTake 72 = .ok (.aload_n 0, 1) := by decide +kernel
theorem nd_GM_addOrTake_73 : decode nc_GM_addOrTake 73 = .ok (.getfield 44, 3) := by decide +kernel
theorem nd_GM_addOrTake_76 : decode nc_GM_addOrTake 76 = .ok (.bipush 8, 2) := by decide +kernel
theorem nd_GM_addOrTake_78 : decode nc_GM_addOrTake 78 = .ok (.iload_n 1, 1) := by decide +kernel
theorem nd_GM_addOrTake_79 : decode nc_GM_addOrTake 79 = .ok (.imul, 1) := by decide +kernel
theorem nd_GM_addOrTake_80 : decode nc_GM_addOrTake 80 = .ok (.iload_n 2, 1) := by decide +kernel
theorem nd_GM_addOrTake_81 : decode nc_GM_addOrTake 81 = .ok (.bipush 7, 2) := by decide +kernel
theorem nd_GM_addOrTake_83 : decode nc_GM_addOrTake 83 = .ok (.iand, 1) := by decide +kernel
theorem nd_GM_addOrTake_84 : decode nc_GM_addOrTake 84 = .ok (.iadd, 1) := by decide +kernel
theorem nd_GM_addOrTake_85 : decode nc_GM_addOrTake 85 = .ok (.aload_n 0, 1) := by decide +kernel
theorem nd_GM_addOrTake_86 : decode nc_GM_addOrTake 86 = .ok (.iload_n 1, 1) := by decide +kernel
theorem nd_GM_addOrTake_87 : decode nc_GM_addOrTake 87 = .ok (.iload_n 3, 1) := by decide +kernel
theorem nd_GM_addOrTake_88 : decode nc_GM_addOrTake 88 = .ok (.iload 6, 2) := by decide +kernel
theorem nd_GM_addOrTake_90 : decode nc_GM_addOrTake 90 = .ok (.ifCond .eq 10, 3) := by decide +kernel
theorem nd_GM_addOrTake_93 : decode nc_GM_addOrTake 93 = .ok (.iload 5, 2) := by decide +kernel
theorem nd_GM_addOrTake_95 : decode nc_GM_addOrTake 95 = .ok (.iconst (-1), 1) := by decide +kernel
theorem nd_GM_addOrTake_96 : decode nc_GM_addOrTake 96 = .ok (.ixor, 1) := by decide +kernel
theorem nd_GM_addOrTake_97 : decode nc_GM_addOrTake 97 = .ok (.goto 5, 3) := by decide +kernel
theorem nd_GM_addOrTake_100 : decode nc_GM_addOrTake 100 = .ok (.iload 5, 2) := by decide +kernel
theorem nd_GM_addOrTake_102 : decode nc_GM_addOrTake 102 = .ok (.iload 6, 2) := by decide +kernel
theorem nd_GM_addOrTake_104 : decode nc_GM_addOrTake 104 = .ok (.ifCond .eq 7, 3) := by decide +kernel
theorem nd_GM_addOrTake_107 : decode nc_GM_addOrTake 107 = .ok (.iconst 1, 1) := by decide +kernel
theorem nd_GM_addOrTake_108 : decode nc_GM_addOrTake 108 = .ok (.goto 4, 3) := by decide +kernel
theorem nd_GM_addOrTake_111 : decode nc_GM_addOrTake 111 = .ok (.iconst 0, 1) := by decide +kernel
theorem nd_GM_addOrTake_112 : decode nc_GM_addOrTake 112 = .ok (.invokevirtual 192, 3) := by decide +kernel
theorem nd_GM_addOrTake_115 : decode nc_GM_addOrTake 115 = .ok (.iastore, 1) := by decide +kernel
theorem nd_GM_addOrTake_116 : decode nc_GM_addOrTake 116 = .ok (.return_, 1) := by decide +kernel
theorem nd_GM_access_0 : decode nc_GM_access 0 = .ok (.aload_n 0, 1) := by decide +kernel
theorem nd_GM_access_1 : decode nc_GM_access 1 = .ok (.iload_n 1, 1) := by decide +kernel
theorem nd_GM_access_2 : decode nc_GM_access 2 = .ok (.iload_n 3, 1) := by decide +kernel
theorem nd_GM_access_3 : decode nc_GM_access 3 = .ok (.iload 4, 2) := by decide +kernel
theorem nd_GM_access_5 : decode nc_GM_access 5 = .ok (.invokevirtual 195, 3) := by decide +kernel
theorem nd_GM_access_8 : decode nc_GM_access 8 = .ok (.ifCond .eq 43, 3) := by decide +kernel
theorem nd_GM_access_11 : decode nc_GM_access 11 = .ok (.iload 4, 2) := by decide +kernel
theorem nd_GM_access_13 : decode nc_GM_access 13 = .ok (.ifCond .eq 22, 3) := by decide +kernel
theorem nd_GM_access_16 : decode nc_GM_access 16 = .ok (.aload_n 0, 1) := by decide +kernel
theorem nd_GM_access_17 : decode nc_GM_access 17 = .ok (.iload_n 3, 1) := by decide +kernel
theorem nd_GM_access_18 : decode nc_GM_access 18 = .ok (.aload_n 0, 1) := by decide +kernel
theorem nd_GM_access_19 : decode nc_GM_access 19 = .ok (.getfield 44, 3) := by decide +kernel
theorem nd_GM_access_22 : decode nc_GM_access 22 = .ok (.bipush 8, 2) := by decide +kernel
theorem nd_GM_access_24 : decode nc_GM_access 24 = .ok (.iload_n 1, 1) := by decide +kernel
theorem nd_GM_access_25 : decode nc_GM_access 25 = .ok (.imul, 1) := by decide +kernel
theorem nd_GM_access_26 : decode nc_GM_access 26 = .ok (.iload_n 2, 1) := by decide +kernel
theorem nd_GM_access_27 : decode nc_GM_access 27 = .ok (.iadd, 1) := by decide +kernel
theorem nd_GM_access_28 : decode nc_GM_access 28 = .ok (.iaload, 1) := by decide +kernel
theorem nd_GM_access_29 : decode nc_GM_access 29 = .ok (.invokevirtual 167, 3) := by decide +kernel
theorem nd_GM_access_32 : decode nc_GM_access 32 = .ok (.goto 19, 3) := by decide +kernel
theorem nd_GM_access_35 : decode nc_GM_access 35 = .ok (.aload_n 0, 1) := by decide +kernel
theorem nd_GM_access_36 : decode nc_GM_access 36 = .ok (.getfield 44, 3) := by decide +kernel
theorem nd_GM_access_39 : decode nc_GM_access 39 = .ok (.bipush 8, 2) := by decide +kernel
theorem nd_GM_access_41 : decode nc_GM_access 41 = .ok (.iload_n 1, 1) := by decide +kernel
theorem nd_GM_access_42 : decode nc_GM_access 42 = .ok (.imul, 1) := by decide +kernel
theorem nd_GM_access_43 : decode nc_GM_access 43 = .ok (.iload_n 2, 1) := by decide +kernel
theorem nd_GM_access_44 : decode nc_GM_access 44 = .ok (.iadd, 1) := by decide +kernel
theorem nd_GM_access_45 : decode nc_GM_access 45 = .ok (.aload_n 0, 1) := by decide +kernel
theorem nd_GM_access_46 : decode nc_GM_access 46 = .ok (.iload_n 3, 1) := by decide +kernel
theorem nd_GM_access_47 : decode nc_GM_access 47 = .ok (.invokevirtual 172, 3) := by decide +kernel
theorem nd_GM_access_50 : decode nc_GM_access 50 = .ok (.iastore, 1) := by decide +kernel
theorem nd_GM_access_51 : decode nc_GM_access 51 = .ok (.return_, 1) := by decide +kernel
theorem nd_GM_leap_0 : decode nc_GM_leap 0 = .ok (.iload_n 2, 1) := by decide +kernel
theorem nd_GM_leap_1 : decode nc_GM_leap 1 = .ok (.iconst 3, 1) := by decide +kernel
theorem nd_GM_leap_2 : decode nc_GM_leap 2 = .ok (.ishr, 1) := by decide +kernel
theorem nd_GM_leap_3 : decode nc_GM_leap 3 = .ok (.bipush 15, 2) := by decide +kernel
theorem nd_GM_leap_5 : decode nc_GM_leap 5 = .ok (.iand, 1) := by decide +kernel
theorem nd_GM_leap_6 : decode nc_GM_leap 6 = .ok (.istore_n 3, 1) := by decide +kernel
theorem nd_GM_leap_7 : decode nc_GM_leap 7 = .ok (.iload_n 2, 1) := by decide +kernel
theorem nd_GM_leap_8 : decode nc_GM_leap 8 = .ok (.bipush 7, 2) := by decide +kernel
theorem nd_GM_leap_10 : decode nc_GM_leap 10 = .ok (.ishr, 1) := by decide +kernel
theorem nd_GM_leap_11 : decode nc_GM_leap 11 = .ok (.istore 4, 2) := by decide +kernel
theorem nd_GM_leap_13 : decode nc_GM_leap 13 = .ok (.iload 4, 2) := by decide +kernel
theorem nd_GM_leap_15 : decode nc_GM_leap 15 = .ok (.sipush 142, 3) := by decide +kernel
theorem nd_GM_leap_18 : decode nc_GM_leap 18 = .ok (.if_icmp .eq 11, 3) := by decide +kernel
theorem nd_GM_leap_21 : decode nc_GM_leap 21 = .ok (.iload 4, 2) := by decide +kernel
theorem nd_GM_leap_23 : decode nc_GM_leap 23 = .ok (.sipush 143, 3) := by decide +kernel
theorem nd_GM_leap_26 : decode nc_GM_leap 26 = .ok (.if_icmp .ne 22, 3) := by decide +kernel
theorem nd_GM_leap_29 : decode nc_GM_leap 29 = .ok (.iload_n 2, 1) := by decide +kernel
theorem nd_GM_leap_30 : decode nc_GM_leap 30 = .ok (.bipush 7, 2) := by decide +kernel
theorem nd_GM_leap_32 : decode nc_GM_leap 32 = .ok (.iand, 1) := by decide +kernel
theorem nd_GM_leap_33 : decode nc_GM_leap 33 = .ok (.ifCond .ne 15, 3) := by decide +kernel
theorem nd_GM_leap_36 : decode nc_GM_leap 36 = .ok (.iload_n 3, 1) := by decide +kernel
theorem nd_GM_leap_37 : decode nc_GM_leap 37 = .ok (.bipush 7, 2) := by decide +kernel
theorem nd_GM_leap_39 : decode nc_GM_leap 39 = .ok (.if_icmp .le 15, 3) := by decide +kernel
theorem nd_GM_leap_42 : decode nc_GM_leap 42 = .ok (.iload_n 3, 1) := by decide +kernel
theorem nd_GM_leap_43 : decode nc_GM_leap 43 = .ok (.bipush 14, 2) := by decide +kernel
theorem nd_GM_leap_45 : decode nc_GM_leap 45 = .ok (.if_icmp .eq 9, 3) := by decide +kernel
theorem nd_GM_leap_48 : decode nc_GM_leap 48 = .ok (.aload_n 0, 1) := by decide +kernel
theorem nd_GM_leap_49 : decode nc_GM_leap 49 = .ok (.iconst 2, 1) := by decide +kernel
theorem nd_GM_leap_50 : decode nc_GM_leap 50 = .ok (.putfield 161, 3) := by decide +kernel
theorem nd_GM_leap_53 : decode nc_GM_leap 53 = .ok (.return_, 1) := by decide +kernel
theorem nd_GM_leap_54 : decode nc_GM_leap 54 = .ok (.iload_n 3, 1) := by decide +kernel
theorem nd_GM_leap_55 : decode nc_GM_leap 55 = .ok (.bipush 14, 2) := by decide +kernel
theorem nd_GM_leap_57 : decode nc_GM_leap 57 = .ok (.if_icmp .ne 12, 3) := by decide +kernel
theorem nd_GM_leap_60 : decode nc_GM_leap 60 = .ok (.aload_n 0, 1) := by decide +kernel
theorem nd_GM_leap_61 : decode nc_GM_leap 61 = .ok (.getfield 50, 3) := by decide +kernel
theorem nd_GM_leap_64 : decode nc_GM_leap 64 = .ok (.iload_n 1, 1) := by decide +kernel
theorem nd_GM_leap_65 : decode nc_GM_leap 65 = .ok (.iaload, 1) := by decide +kernel
theorem nd_GM_leap_66 : decode nc_GM_leap 66 = .ok (.goto 14, 3) := by decide +kernel
theorem nd_GM_leap_69 : decode nc_GM_leap 69 = .ok (.aload_n 0, 1) := by decide +kernel
theorem nd_GM_leap_70 : decode nc_GM_leap 70 = .ok (.getfield 44, 3) := by decide +kernel
theorem nd_GM_leap_73 : decode nc_GM_leap 73 = .ok (.bipush 8, 2) := by decide +kernel
theorem nd_GM_leap_75 : decode nc_GM_leap 75 = .ok (.iload_n 1, 1) := by decide +kernel
theorem nd_GM_leap_76 : decode nc_GM_leap 76 = .ok (.imul, 1) := by decide +kernel
theorem nd_GM_leap_77 : decode nc_GM_leap 77 = .ok (.iload_n 3, 1) := by decide +kernel
theorem nd_GM_leap_78 : decode nc_GM_leap 78 = .ok (.iadd, 1) := by decide +kernel
theorem nd_GM_leap_79 : decode nc_GM_leap 79 = .ok (.iaload, 1) := by decide +kernel
theorem nd_GM_leap_80 : decode nc_GM_leap 80 = .ok (.istore 5, 2) := by decide +kernel
theorem nd_GM_leap_82 : decode nc_GM_leap 82 = .ok (.iload 5, 2) := by decide +kernel
