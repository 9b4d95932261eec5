theorem nd_GK_init_0 : decode nc_GK_init 0 = .ok (.aload_n 0, 1) := by decide +kernel
theorem nd_GK_init_1 : decode nc_GK_init 1 = .ok (.invokespecial 1, 3) := by decide +kernel
theorem nd_GK_init_4 : decode nc_GK_init 4 = .ok (.aload_n 0, 1) := by decide +kernel
theorem nd_GK_init_5 : decode nc_GK_init 5 = .ok (.new 7, 3) := by decide +kernel
theorem nd_GK_init_8 : decode nc_GK_init 8 = .ok (.dup, 1) := by decide +kernel
theorem nd_GK_init_9 : decode nc_GK_init 9 = .ok (.invokespecial 9, 3) := by decide +kernel
theorem nd_GK_init_12 : decode nc_GK_init 12 = .ok (.putfield 10, 3) := by decide +kernel
theorem nd_GK_init_15 : decode nc_GK_init 15 = .ok (.aload_n 0, 1) := by decide +kernel
theorem nd_GK_init_16 : decode nc_GK_init 16 = .ok (.iconst 4, 1) := by decide +kernel
theorem nd_GK_init_17 : decode nc_GK_init 17 = .ok (.anewarray 16, 3) := by decide +kernel
theorem nd_GK_init_20 : decode nc_GK_init 20 = .ok (.putfield 18, 3) := by decide +kernel
theorem nd_GK_init_23 : decode nc_GK_init 23 = .ok (.iconst 0, 1) := by decide +kernel
theorem nd_GK_init_24 : decode nc_GK_init 24 = .ok (.istore_n 1, 1) := by decide +kernel
theorem nd_GK_init_25 : decode nc_GK_init 25 = .ok (.iload_n 1, 1) := by decide +kernel
theorem nd_GK_init_26 : decode nc_GK_init 26 = .ok (.iconst 4, 1) := by decide +kernel
theorem nd_GK_init_27 : decode nc_GK_init 27 = .ok (.if_icmp .ge 26, 3) := by decide +kernel
theorem nd_GK_init_30 : decode nc_GK_init 30 = .ok (.aload_n 0, 1) := by decide +kernel
theorem nd_GK_init_31 : decode nc_GK_init 31 = .ok (.getfield 18, 3) := by decide +kernel
theorem nd_GK_init_34 : decode nc_GK_init 34 = .ok (.iload_n 1, 1) := by decide +kernel
theorem nd_GK_init_35 : decode nc_GK_init 35 = .ok (.new 16, 3) := by decide +kernel
theorem nd_GK_init_38 : decode nc_GK_init 38 = .ok (.dup, 1) := by decide +kernel
theorem nd_GK_init_39 : decode nc_GK_init 39 = .ok (.aload_n 0, 1) := by decide +kernel
theorem nd_GK_init_40 : decode nc_GK_init 40 = .ok (.getfield 10, 3) := by decide +kernel
theorem nd_GK_init_43 : decode nc_GK_init 43 = .ok (.invokespecial 22, 3) := by decide +kernel
theorem nd_GK_init_46 : decode nc_GK_init 46 = .ok (.aastore, 1) := by decide +kernel
theorem nd_GK_init_47 : decode nc_GK_init 47 = .ok (.iinc 1 1, 3) := by decide +kernel
theorem nd_GK_init_50 : decode nc_GK_init 50 = .ok (.goto (-25), 3) := by decide +kernel
theorem nd_GK_init_53 : decode nc_GK_init 53 = .ok (.aload_n 0, 1) := by decide +kernel
theorem nd_GK_init_54 : decode nc_GK_init 54 = .ok (.new 25, 3) := by decide +kernel
theorem nd_GK_init_57 : decode nc_GK_init 57 = .ok (.dup, 1) := by decide +kernel
theorem nd_GK_init_58 : decode nc_GK_init 58 = .ok (.invokespecial 27, 3) := by decide +kernel
theorem nd_GK_init_61 : decode nc_GK_init 61 = .ok (.putfield 28, 3) := by decide +kernel
theorem nd_GK_init_64 : decode nc_GK_init 64 = .ok (.aload_n 0, 1) := by decide +kernel
theorem nd_GK_init_65 : decode nc_GK_init 65 = .ok (.new 32, 3) := by decide +kernel
theorem nd_GK_init_68 : decode nc_GK_init 68 = .ok (.dup, 1) := by decide +kernel
theorem nd_GK_init_69 : decode nc_GK_init 69 = .ok (.aload_n 0, 1) := by decide +kernel
theorem nd_GK_init_70 : decode nc_GK_init 70 = .ok (.getfield 10, 3) := by decide +kernel
theorem nd_GK_init_73 : decode nc_GK_init 73 = .ok (.aload_n 0, 1) := by decide +kernel
theorem nd_GK_init_74 : decode nc_GK_init 74 = .ok (.getfield 18, 3) := by decide +kernel
theorem nd_GK_init_77 : decode nc_GK_init 77 = .ok (.aload_n 0, 1) := by decide +kernel
theorem nd_GK_init_78 : decode nc_GK_init 78 = .ok (.getfield 28, 3) := by decide +kernel
theorem nd_GK_init_81 : decode nc_GK_init 81 = .ok (.invokespecial 34, 3) := by decide +kernel
theorem nd_GK_init_84 : decode nc_GK_init 84 = .ok (.putfield 37, 3) := by decide +kernel
theorem nd_GK_init_87 : decode nc_GK_init 87 = .ok (.aload_n 0, 1) := by decide +kernel
theorem nd_GK_init_88 : decode nc_GK_init 88 = .ok (.new 41, 3) := by decide +kernel
theorem nd_GK_init_91 : decode nc_GK_init 91 = .ok (.dup, 1) := by decide +kernel
theorem nd_GK_init_92 : decode nc_GK_init 92 = .ok (.aload_n 0, 1) := by decide +kernel
theorem nd_GK_init_93 : decode nc_GK_init 93 = .ok (.getfield 10, 3) := by decide +kernel
theorem nd_GK_init_96 : decode nc_GK_init 96 = .ok (.aload_n 0, 1) := by decide +kernel
theorem nd_GK_init_97 : decode nc_GK_init 97 = .ok (.getfield 18, 3) := by decide +kernel
theorem nd_GK_init_100 : decode nc_GK_init 100 = .ok (.invokespecial 43, 3) := by decide +kernel
theorem nd_GK_init_103 : decode nc_GK_init 103 = .ok (.putfield 46, 3) := by decide +kernel
theorem nd_GK_init_106 : decode nc_GK_init 106 = .ok (.aload_n 0, 1) := by decide +kernel
theorem nd_GK_init_107 : decode nc_GK_init 107 = .ok (.new 50, 3) := by decide +kernel
theorem nd_GK_init_110 : decode nc_GK_init 110 = .ok (.dup, 1) := by decide +kernel
theorem nd_GK_init_111 : decode nc_GK_init 111 = .ok (.aload_n 0, 1) := by decide +kernel
theorem nd_GK_init_112 : decode nc_GK_init 112 = .ok (.getfield 10, 3) := by decide +kernel
theorem nd_GK_init_115 : decode nc_GK_init 115 = .ok (.invokespecial 52, 3) := by decide +kernel
theorem nd_GK_init_118 : decode nc_GK_init 118 = .ok (.putfield 53, 3) := by decide +kernel
theorem nd_GK_init_121 : decode nc_GK_init 121 = .ok (.aload_n 0, 1) := by decide +kernel
theorem nd_GK_init_122 : decode nc_GK_init 122 = .ok (.iconst (-1), 1) := by decide +kernel
theorem nd_GK_init_123 : decode nc_GK_init 123 = .ok (.putfield 57, 3) := by decide +kernel
theorem nd_GK_init_126 : decode nc_GK_init 126 = .ok (.return_, 1) := by decide +kernel
theorem nd_GK_burn_0 : decode nc_GK_burn 0 = .ok (.iload_n 1, 1) := by decide +kernel
theorem nd_GK_burn_1 : decode nc_GK_burn 1 = .ok (.ifCond .lt 20, 3) := by decide +kernel
theorem nd_GK_burn_4 : decode nc_GK_burn 4 = .ok (.iload_n 1, 1) := by decide +kernel
theorem nd_GK_burn_5 : decode nc_GK_burn 5 = .ok (.sipush 256, 3) := by decide +kernel
theorem nd_GK_burn_8 : decode nc_GK_burn 8 = .ok (.if_icmp .ge 13, 3) := by decide +kernel
theorem nd_GK_burn_11 : decode nc_GK_burn 11 = .ok (.iload_n 2, 1) := by decide +kernel
theorem nd_GK_burn_12 : decode nc_GK_burn 12 = .ok (.ifCond .lt 9, 3) := by decide +kernel
theorem nd_GK_burn_15 : decode nc_GK_burn 15 = .ok (.iload_n 2, 1) := by decide +kernel
theorem nd_GK_burn_16 : decode nc_GK_burn 16 = .ok (.ldc 61, 2) := by decide +kernel
theorem nd_GK_burn_18 : decode nc_GK_burn 18 = .ok (.if_icmp .le 5, 3) := by decide +kernel
theorem nd_GK_burn_21 : decode nc_GK_burn 21 = .ok (.iconst (-1), 1) := by decide +kernel
theorem nd_GK_burn_22 : decode nc_GK_burn 22 = .ok (.ireturn, 1) := by decide +kernel
theorem nd_GK_burn_23 : decode nc_GK_burn 23 = .ok (.aload_n 0, 1) := by decide +kernel
theorem nd_GK_burn_24 : decode nc_GK_burn 24 = .ok (.getfield 10, 3) := by decide +kernel
theorem nd_GK_burn_27 : decode nc_GK_burn 27 = .ok (.getfield 62, 3) := by decide +kernel
theorem nd_GK_burn_30 : decode nc_GK_burn 30 = .ok (.iload_n 1, 1) := by decide +kernel
theorem nd_GK_burn_31 : decode nc_GK_burn 31 = .ok (.iaload, 1) := by decide +kernel
theorem nd_GK_burn_32 : decode nc_GK_burn 32 = .ok (.istore_n 3, 1) := by decide +kernel
theorem nd_GK_burn_33 : decode nc_GK_burn 33 = .ok (.aload_n 0, 1) := by decide +kernel
theorem nd_GK_burn_34 : decode nc_GK_burn 34 = .ok (.getfield 10, 3) := by decide +kernel
theorem nd_GK_burn_37 : decode nc_GK_burn 37 = .ok (.getfield 62, 3) := by decide +kernel
theorem nd_GK_burn_40 : decode nc_GK_burn 40 = .ok (.iload_n 1, 1) := by decide +kernel
theorem nd_GK_burn_41 : decode nc_GK_burn 41 = .ok (.iload_n 2, 1) := by decide +kernel
theorem nd_GK_burn_42 : decode nc_GK_burn 42 = .ok (.iastore, 1) := by decide +kernel
theorem nd_GK_burn_43 : decode nc_GK_burn 43 = .ok (.iload_n 3, 1) := by decide +kernel
theorem nd_GK_burn_44 : decode nc_GK_burn 44 = .ok (.ireturn, 1) := by decide +kernel
theorem nd_GK_boot_0 : decode nc_GK_boot 0 = .ok (.aload_n 0, 1) := by decide +kernel
theorem nd_GK_boot_1 : decode nc_GK_boot 1 = .ok (.getfield 10, 3) := by decide +kernel
theorem nd_GK_boot_4 : decode nc_GK_boot 4 = .ok (.sipush 4096, 3) := by decide +kernel
theorem nd_GK_boot_7 : decode nc_GK_boot 7 = .ok (.sipush 128, 3) := by decide +kernel
theorem nd_GK_boot_10 : decode nc_GK_boot 10 = .ok (.invokevirtual 66, 3) := by decide +kernel
theorem nd_GK_boot_13 : decode nc_GK_boot 13 = .ok (.aload_n 0, 1) := by decide +kernel
theorem nd_GK_boot_14 : decode nc_GK_boot 14 = .ok (.getfield 28, 3) := by decide +kernel
theorem nd_GK_boot_17 : decode nc_GK_boot 17 = .ok (.invokevirtual 70, 3) := by decide +kernel
theorem nd_GK_boot_20 : decode nc_GK_boot 20 = .ok (.aload_n 0, 1) := by decide +kernel
theorem nd_GK_boot_21 : decode nc_GK_boot 21 = .ok (.getfield 37, 3) := by decide +kernel
theorem nd_GK_boot_24 : decode nc_GK_boot 24 = .ok (.iconst 0, 1) := by decide +kernel
theorem nd_GK_boot_25 : decode nc_GK_boot 25 = .ok (.putfield 73, 3) := by decide +kernel
theorem nd_GK_boot_28 : decode nc_GK_boot 28 = .ok (.aload_n 0, 1) := by decide +kernel
theorem nd_GK_boot_29 : decode nc_GK_boot 29 = .ok (.iconst (-1), 1) := by decide +kernel
theorem nd_GK_boot_30 : decode nc_GK_boot 30 = .ok (.putfield 57, 3) := by decide +kernel
theorem nd_GK_boot_33 : decode nc_GK_boot 33 = .ok (.aload_n 0, 1) := by decide +kernel
theorem nd_GK_boot_34 : decode nc_GK_boot 34 = .ok (.iconst 0, 1) := by decide +kernel
theorem nd_GK_boot_35 : decode nc_GK_boot 35 = .ok (.putfield 76, 3) := by decide +kernel
theorem nd_GK_boot_38 : decode nc_GK_boot 38 = .ok (.aload_n 0, 1) := by decide +kernel
theorem nd_GK_boot_39 : decode nc_GK_boot 39 = .ok (.aload_n 0, 1) := by decide +kernel
theorem nd_GK_boot_40 : decode nc_GK_boot 40 = .ok (.getfield 46, 3) := by decide +kernel
theorem nd_GK_boot_43 : decode nc_GK_boot 43 = .ok (.invokevirtual 79, 3) := by decide +kernel
theorem nd_GK_boot_46 : decode nc_GK_boot 46 = .ok (.putfield 83, 3) := by decide +kernel
theorem nd_GK_boot_49 : decode nc_GK_boot 49 = .ok (.aload_n 0, 1) := by decide +kernel
theorem nd_GK_boot_50 : decode nc_GK_boot 50 = .ok (.getfield 83, 3) := by decide +kernel
theorem nd_GK_boot_53 : decode nc_GK_boot 53 = .ok (.ireturn, 1) := by decide +kernel
theorem nd_GK_run_0 : decode nc_GK_run 0 = .ok (.iload_n 1, 1) := by decide +kernel
theorem nd_GK_run_1 : decode nc_GK_run 1 = .ok (.ifCond .lt 10, 3) := by decide +kernel
theorem nd_GK_run_4 : decode nc_GK_run 4 = .ok (.iload_n 1, 1) := by decide +kernel
theorem nd_GK_run_5 : decode nc_GK_run 5 = .ok (.sipush 400, 3) := by decide +kernel
theorem nd_GK_run_8 : decode nc_GK_run 8 = .ok (.if_icmp .le 5, 3) := by decide +kernel
theorem nd_GK_run_11 : decode nc_GK_run 11 = .ok (.iconst (-1), 1) := by decide +kernel
theorem nd_GK_run_12 : decode nc_GK_run 12 = .ok (.ireturn, 1) := by decide +kernel
theorem nd_GK_run_13 : decode nc_GK_run 13 = .ok (.iconst 0, 1) := by decide +kernel
theorem nd_GK_run_14 : decode nc_GK_run 14 = .ok (.istore_n 2, 1) := by decide +kernel
theorem nd_GK_run_15 : decode nc_GK_run 15 = .ok (.iconst 0, 1) := by decide +kernel
theorem nd_GK_run_16 : decode nc_GK_run 16 = .ok (.istore_n 3, 1) := by decide +kernel
theorem nd_GK_run_17 : decode nc_GK_run 17 = .ok (.iload_n 3, 1) := by decide +kernel
theorem nd_GK_run_18 : decode nc_GK_run 18 = .ok (.iload_n 1, 1) := by decide +kernel
theorem nd_GK_run_19 : decode nc_GK_run 19 = .ok (.if_icmp .ge 75, 3) := by decide +kernel
theorem nd_GK_run_22 : decode nc_GK_run 22 = .ok (.aload_n 0, 1) := by decide +kernel
theorem nd_GK_run_23 : decode nc_GK_run 23 = .ok (.getfield 37, 3) := by decide +kernel
theorem nd_GK_run_26 : decode nc_GK_run 26 = .ok (.invokevirtual 86, 3) := by decide +kernel
theorem nd_GK_run_29 : decode nc_GK_run 29 = .ok (.aload_n 0, 1) := by decide +kernel
theorem nd_GK_run_30 : decode nc_GK_run 30 = .ok (.invokevirtual 89, 3) := by decide +kernel
theorem nd_GK_run_33 : decode nc_GK_run 33 = .ok (.ifCond .eq 55, 3) := by decide +kernel
theorem nd_GK_run_36 : decode nc_GK_run 36 = .ok (.aload_n 0, 1) := by decide +kernel
theorem nd_GK_run_37 : decode nc_GK_run 37 = .ok (.getfield 18, 3) := by decide +kernel
theorem nd_GK_run_40 : decode nc_GK_run 40 = .ok (.aload_n 0, 1) := by decide +kernel
theorem nd_GK_run_41 : decode nc_GK_run 41 = .ok (.getfield 57, 3) := by decide +kernel
theorem nd_GK_run_44 : decode nc_GK_run 44 = .ok (.aaload, 1) := by decide +kernel
theorem nd_GK_run_45 : decode nc_GK_run 45 = .ok (.astore 4, 2) := by decide +kernel
theorem nd_GK_run_47 : decode nc_GK_run 47 = .ok (.aload_n 0, 1) := by decide +kernel
theorem nd_GK_run_48 : decode nc_GK_run 48 = .ok (.aload 4, 2) := by decide +kernel
theorem nd_GK_run_50 : decode nc_GK_run 50 = .ok (.invokevirtual 93, 3) := by decide +kernel
theorem nd_GK_run_53 : decode nc_GK_run 53 = .ok (.istore 5, 2) := by decide +kernel
theorem nd_GK_run_55 : decode nc_GK_run 55 = .ok (.iload 5, 2) := by decide +kernel
theorem nd_GK_run_57 : decode nc_GK_run 57 = .ok (.sipush 256, 3) := by decide +kernel
theorem nd_GK_run_60 : decode nc_GK_run 60 = .ok (.if_icmp .lt 17, 3) := by decide +kernel
theorem nd_GK_run_63 : decode nc_GK_run 63 = .ok (.aload_n 0, 1) := by decide +kernel
theorem nd_GK_run_64 : decode nc_GK_run 64 = .ok (.aload 4, 2) := by decide +kernel
theorem nd_GK_run_66 : decode nc_GK_run 66 = .ok (.iload 5, 2) := by decide +kernel
theorem nd_GK_run_68 : decode nc_GK_run 68 = .ok (.sipush 256, 3) := by decide +kernel
theorem nd_GK_run_71 : decode nc_GK_run 71 = .ok (.isub, 1) := by decide +kernel
theorem nd_GK_run_72 : decode nc_GK_run 72 = .ok (.invokevirtual 97, 3) := by decide +kernel
theorem nd_GK_run_75 : decode nc_GK_run 75 = .ok (.istore 5, 2) := by decide +kernel
theorem nd_GK_run_77 : decode nc_GK_run 77 = .ok (.aload_n 0, 1) := by decide +kernel
theorem nd_GK_run_78 : decode nc_GK_run 78 = .ok (.aload 4, 2) := by decide +kernel
theorem nd_GK_run_80 : decode nc_GK_run 80 = .ok (.iload 5, 2) := by decide +kernel
theorem nd_GK_run_82 : decode nc_GK_run 82 = .ok (.invokevirtual 101, 3) := by decide +kernel
theorem nd_GK_run_85 : decode nc_GK_run 85 = .ok (.iinc 2 1, 3) := by decide +kernel
theorem nd_GK_run_88 : decode nc_GK_run 88 = .ok (.iinc 3 1, 3) := by decide +kernel
theorem nd_GK_run_91 : decode nc_GK_run 91 = .ok (.goto (-74), 3) := by decide +kernel
theorem nd_GK_run_94 : decode nc_GK_run 94 = .ok (.iload_n 2, 1) := by decide +kernel
theorem nd_GK_run_95 : decode nc_GK_run 95 = .ok (.ireturn, 1) := by decide +kernel
theorem nd_GK_type_0 : decode nc_GK_type 0 = .ok (.aload_n 0, 1) := by decide +kernel
theorem nd_GK_type_1 : decode nc_GK_type 1 = .ok (.getfield 37, 3) := by decide +kernel
theorem nd_GK_type_4 : decode nc_GK_type 4 = .ok (.iload_n 1, 1) := by decide +kernel
theorem nd_GK_type_5 : decode nc_GK_type 5 = .ok (.invokevirtual 105, 3) := by decide +kernel
theorem nd_GK_type_8 : decode nc_GK_type 8 = .ok (.ireturn, 1) := by decide +kernel
theorem nd_GK_sample_0 : decode nc_GK_sample 0 = .ok (.aload_n 0, 1) := by decide +kernel
theorem nd_GK_sample_1 : decode nc_GK_sample 1 = .ok (.getfield 37, 3) := by decide +kernel
theorem nd_GK_sample_4 : decode nc_GK_sample 4 = .ok (.iload_n 1, 1) := by decide +kernel
theorem nd_GK_sample_5 : decode nc_GK_sample 5 = .ok (.invokevirtual 109, 3) := by decide +kernel
theorem nd_GK_sample_8 : decode nc_GK_sample 8 = .ok (.ireturn, 1) := by decide +kernel
theorem nd_GK_outputs_0 : decode nc_GK_outputs 0 = .ok (.aload_n 0, 1) := by decide +kernel
theorem nd_GK_outputs_1 : decode nc_GK_outputs 1 = .ok (.getfield 28, 3) := by decide +kernel
theorem nd_GK_outputs_4 : decode nc_GK_outputs 4 = .ok (.getfield 113, 3) := by decide +kernel
theorem nd_GK_outputs_7 : decode nc_GK_outputs 7 = .ok (.ireturn, 1) := by decide +kernel
theorem nd_GK_output_0 : decode nc_GK_output 0 = .ok (.aload_n 0, 1) := by decide +kernel
theorem nd_GK_output_1 : decode nc_GK_output 1 = .ok (.getfield 28, 3) := by decide +kernel
theorem nd_GK_output_4 : decode nc_GK_output 4 = .ok (.iload_n 1, 1) := by decide +kernel
theorem nd_GK_output_5 : decode nc_GK_output 5 = .ok (.invokevirtual 116, 3) := by decide +kernel
theorem nd_GK_output_8 : decode nc_GK_output 8 = .ok (.ireturn, 1) := by decide +kernel
theorem nd_GK_now_0 : decode nc_GK_now 0 = .ok (.aload_n 0, 1) := by decide +kernel
theorem nd_GK_now_1 : decode nc_GK_now 1 = .ok (.getfield 37, 3) := by decide +kernel
theorem nd_GK_now_4 : decode nc_GK_now 4 = .ok (.getfield 73, 3) := by decide +kernel
theorem nd_GK_now_7 : decode nc_GK_now 7 = .ok (.ireturn, 1) := by decide +kernel
theorem nd_GK_turn_0 : decode nc_GK_turn 0 = .ok (.aload_n 0, 1) := by decide +kernel
theorem nd_GK_turn_1 : decode nc_GK_turn 1 = .ok (.getfield 57, 3) := by decide +kernel
theorem nd_GK_turn_4 : decode nc_GK_turn 4 = .ok (.ireturn, 1) := by decide +kernel
theorem nd_GK_state_0 : decode nc_GK_state 0 = .ok (.aload_n 0, 1) := by decide +kernel
theorem nd_GK_state_1 : decode nc_GK_state 1 = .ok (.iload_n 1, 1) := by decide +kernel
theorem nd_GK_state_2 : decode nc_GK_state 2 = .ok (.invokevirtual 119, 3) := by decide +kernel
theorem nd_GK_state_5 : decode nc_GK_state 5 = .ok (.astore_n 2, 1) := by decide +kernel
theorem nd_GK_state_6 : decode nc_GK_state 6 = .ok (.aload_n 2, 1) := by decide +kernel
theorem nd_GK_state_7 : decode nc_GK_state 7 = .ok (.ifnonnull 7, 3) := by decide +kernel
theorem nd_GK_state_10 : decode nc_GK_state 10 = .ok (.iconst (-1), 1) := by decide +kernel
theorem nd_GK_state_11 : decode nc_GK_state 11 = .ok (.goto 7, 3) := by decide +kernel
theorem nd_GK_state_14 : decode nc_GK_state 14 = .ok (.aload_n 2, 1) := by decide +kernel
theorem nd_GK_state_15 : decode nc_GK_state 15 = .ok (.getfield 123, 3) := by decide +kernel
theorem nd_GK_state_18 : decode nc_GK_state 18 = .ok (.ireturn, 1) := by decide +kernel
theorem nd_GK_register_0 : decode nc_GK_register 0 = .ok (.aload_n 0, 1) := by decide +kernel
theorem nd_GK_register_1 : decode nc_GK_register 1 = .ok (.iload_n 1, 1) := by decide +kernel
theorem nd_GK_register_2 : decode nc_GK_register 2 = .ok (.invokevirtual 119, 3) := by decide +kernel
theorem nd_GK_register_5 : decode nc_GK_register 5 = .ok (.astore_n 3, 1) := by decide +kernel
theorem nd_GK_register_6 : decode nc_GK_register 6 = .ok (.aload_n 3, 1) := by decide +kernel
theorem nd_GK_register_7 : decode nc_GK_register 7 = .ok (.ifnonnull 7, 3) := by decide +kernel
theorem nd_GK_register_10 : decode nc_GK_register 10 = .ok (.iconst 0, 1) := by decide +kernel
theorem nd_GK_register_11 : decode nc_GK_register 11 = .ok (.goto 8, 3) := by decide +kernel
theorem nd_GK_register_14 : decode nc_GK_register 14 = .ok (.aload_n 3, 1) := by decide +kernel
theorem nd_GK_register_15 : decode nc_GK_register 15 = .ok (.iload_n 2, 1) := by decide +kernel
theorem nd_GK_register_16 : decode nc_GK_register 16 = .ok (.invokevirtual 126, 3) := by decide +kernel
theorem nd_GK_register_19 : decode nc_GK_register 19 = .ok (.ireturn, 1) := by decide +kernel
theorem nd_GK_word_0 : decode nc_GK_word 0 = .ok (.iload_n 1, 1) := by decide +kernel
theorem nd_GK_word_1 : decode nc_GK_word 1 = .ok (.ifCond .lt 10, 3) := by decide +kernel
theorem nd_GK_word_4 : decode nc_GK_word 4 = .ok (.iload_n 1, 1) := by decide +kernel
theorem nd_GK_word_5 : decode nc_GK_word 5 = .ok (.sipush 128, 3) := by decide +kernel
theorem nd_GK_word_8 : decode nc_GK_word 8 = .ok (.if_icmp .lt 7, 3) := by decide +kernel
theorem nd_GK_word_11 : decode nc_GK_word 11 = .ok (.iconst 0, 1) := by decide +kernel
theorem nd_GK_word_12 : decode nc_GK_word 12 = .ok (.goto 12, 3) := by decide +kernel
theorem nd_GK_word_15 : decode nc_GK_word 15 = .ok (.aload_n 0, 1) := by decide +kernel
theorem nd_GK_word_16 : decode nc_GK_word 16 = .ok (.getfield 10, 3) := by decide +kernel
theorem nd_GK_word_19 : decode nc_GK_word 19 = .ok (.getfield 129, 3) := by decide +kernel
theorem nd_GK_word_22 : decode nc_GK_word 22 = .ok (.iload_n 1, 1) := by decide +kernel
theorem nd_GK_word_23 : decode nc_GK_word 23 = .ok (.iaload, 1) := by decide +kernel
theorem nd_GK_word_24 : decode nc_GK_word 24 = .ok (.ireturn, 1) := by decide +kernel
theorem nd_GK_block_0 : decode nc_GK_block 0 = .ok (.aload_n 0, 1) := by decide +kernel
theorem nd_GK_block_1 : decode nc_GK_block 1 = .ok (.iload_n 1, 1) := by decide +kernel
theorem nd_GK_block_2 : decode nc_GK_block 2 = .ok (.invokevirtual 119, 3) := by decide +kernel
theorem nd_GK_block_5 : decode nc_GK_block 5 = .ok (.astore_n 2, 1) := by decide +kernel
theorem nd_GK_block_6 : decode nc_GK_block 6 = .ok (.aload_n 2, 1) := by decide +kernel
theorem nd_GK_block_7 : decode nc_GK_block 7 = .ok (.ifnonnull 7, 3) := by decide +kernel
theorem nd_GK_block_10 : decode nc_GK_block 10 = .ok (.iconst (-1), 1) := by decide +kernel
theorem nd_GK_block_11 : decode nc_GK_block 11 = .ok (.goto 7, 3) := by decide +kernel
theorem nd_GK_block_14 : decode nc_GK_block 14 = .ok (.aload_n 2, 1) := by decide +kernel
theorem nd_GK_block_15 : decode nc_GK_block 15 = .ok (.getfield 132, 3) := by decide +kernel
theorem nd_GK_block_18 : decode nc_GK_block 18 = .ok (.ireturn, 1) := by decide +kernel
theorem nd_GK_open_0 : decode nc_GK_open 0 = .ok (.aload_n 0, 1) := by decide +kernel
theorem nd_GK_open_1 : decode nc_GK_open 1 = .ok (.iload_n 1, 1) := by decide +kernel
theorem nd_GK_open_2 : decode nc_GK_open 2 = .ok (.invokevirtual 119, 3) := by decide +kernel
theorem nd_GK_open_5 : decode nc_GK_open 5 = .ok (.astore_n 2, 1) := by decide +kernel
theorem nd_GK_open_6 : decode nc_GK_open 6 = .ok (.aload_n 2, 1) := by decide +kernel
theorem nd_GK_open_7 : decode nc_GK_open 7 = .ok (.ifnonnull 7, 3) := by decide +kernel
theorem nd_GK_open_10 : decode nc_GK_open 10 = .ok (.iconst (-1), 1) := by decide +kernel
theorem nd_GK_open_11 : decode nc_GK_open 11 = .ok (.goto 7, 3) := by decide +kernel
theorem nd_GK_open_14 : decode nc_GK_open 14 = .ok (.aload_n 2, 1) := by decide +kernel
theorem nd_GK_open_15 : decode nc_GK_open 15 = .ok (.getfield 135, 3) := by decide +kernel
theorem nd_GK_open_18 : decode nc_GK_open 18 = .ok (.ireturn, 1) := by decide +kernel
theorem nd_GK_grant_0 : decode nc_GK_grant 0 = .ok (.aload_n 0, 1) := by decide +kernel
theorem nd_GK_grant_1 : decode nc_GK_grant 1 = .ok (.iload_n 1, 1) := by decide +kernel
theorem nd_GK_grant_2 : decode nc_GK_grant 2 = .ok (.invokevirtual 119, 3) := by decide +kernel
theorem nd_GK_grant_5 : decode nc_GK_grant 5 = .ok (.astore_n 3, 1) := by decide +kernel
theorem nd_GK_grant_6 : decode nc_GK_grant 6 = .ok (.aload_n 3, 1) := by decide +kernel
theorem nd_GK_grant_7 : decode nc_GK_grant 7 = .ok (.ifnull 23, 3) := by decide +kernel
theorem nd_GK_grant_10 : decode nc_GK_grant 10 = .ok (.iload_n 2, 1) := by decide +kernel
theorem nd_GK_grant_11 : decode nc_GK_grant 11 = .ok (.ifCond .lt 19, 3) := by decide +kernel
theorem nd_GK_grant_14 : decode nc_GK_grant 14 = .ok (.iload_n 2, 1) := by decide +kernel
theorem nd_GK_grant_15 : decode nc_GK_grant 15 = .ok (.iconst 3, 1) := by decide +kernel
theorem nd_GK_grant_16 : decode nc_GK_grant 16 = .ok (.if_icmp .ge 14, 3) := by decide +kernel
theorem nd_GK_grant_19 : decode nc_GK_grant 19 = .ok (.aload_n 3, 1) := by decide +kernel
theorem nd_GK_grant_20 : decode nc_GK_grant 20 = .ok (.getfield 138, 3) := by decide +kernel
theorem nd_GK_grant_23 : decode nc_GK_grant 23 = .ok (.iload_n 2, 1) := by decide +kernel
theorem nd_GK_grant_24 : decode nc_GK_grant 24 = .ok (.invokevirtual 142, 3) := by decide +kernel
theorem nd_GK_grant_27 : decode nc_GK_grant 27 = .ok (.ifCond .ne 5, 3) := by decide +kernel
theorem nd_GK_grant_30 : decode nc_GK_grant 30 = .ok (.iconst (-1), 1) := by decide +kernel
theorem nd_GK_grant_31 : decode nc_GK_grant 31 = .ok (.ireturn, 1) := by decide +kernel
theorem nd_GK_grant_32 : decode nc_GK_grant 32 = .ok (.aload_n 3, 1) := by decide +kernel
theorem nd_GK_grant_33 : decode nc_GK_grant 33 = .ok (.getfield 138, 3) := by decide +kernel
theorem nd_GK_grant_36 : decode nc_GK_grant 36 = .ok (.getfield 147, 3) := by decide +kernel
theorem nd_GK_grant_39 : decode nc_GK_grant 39 = .ok (.iload_n 2, 1) := by decide +kernel
theorem nd_GK_grant_40 : decode nc_GK_grant 40 = .ok (.iaload, 1) := by decide +kernel
theorem nd_GK_grant_41 : decode nc_GK_grant 41 = .ok (.ireturn, 1) := by decide +kernel
theorem nd_GK_queued_0 : decode nc_GK_queued 0 = .ok (.aload_n 0, 1) := by decide +kernel
theorem nd_GK_queued_1 : decode nc_GK_queued 1 = .ok (.iload_n 1, 1) := by decide +kernel
theorem nd_GK_queued_2 : decode nc_GK_queued 2 = .ok (.invokevirtual 119, 3) := by decide +kernel
theorem nd_GK_queued_5 : decode nc_GK_queued 5 = .ok (.astore_n 2, 1) := by decide +kernel
theorem nd_GK_queued_6 : decode nc_GK_queued 6 = .ok (.aload_n 2, 1) := by decide +kernel
theorem nd_GK_queued_7 : decode nc_GK_queued 7 = .ok (.ifnonnull 7, 3) := by decide +kernel
theorem nd_GK_queued_10 : decode nc_GK_queued 10 = .ok (.iconst (-1), 1) := by decide +kernel
theorem nd_GK_queued_11 : decode nc_GK_queued 11 = .ok (.goto 13, 3) := by decide +kernel
theorem nd_GK_queued_14 : decode nc_GK_queued 14 = .ok (.aload_n 2, 1) := by decide +kernel
theorem nd_GK_queued_15 : decode nc_GK_queued 15 = .ok (.getfield 138, 3) := by decide +kernel
theorem nd_GK_queued_18 : decode nc_GK_queued 18 = .ok (.getfield 150, 3) := by decide +kernel
theorem nd_GK_queued_21 : decode nc_GK_queued 21 = .ok (.getfield 154, 3) := by decide +kernel
theorem nd_GK_queued_24 : decode nc_GK_queued 24 = .ok (.ireturn, 1) := by decide +kernel
theorem nd_GK_fault_0 : decode nc_GK_fault 0 = .ok (.aload_n 0, 1) := by decide +kernel
theorem nd_GK_fault_1 : decode nc_GK_fault 1 = .ok (.iload_n 1, 1) := by decide +kernel
theorem nd_GK_fault_2 : decode nc_GK_fault 2 = .ok (.invokevirtual 119, 3) := by decide +kernel
theorem nd_GK_fault_5 : decode nc_GK_fault 5 = .ok (.astore_n 2, 1) := by decide +kernel
theorem nd_GK_fault_6 : decode nc_GK_fault 6 = .ok (.aload_n 2, 1) := by decide +kernel
theorem nd_GK_fault_7 : decode nc_GK_fault 7 = .ok (.ifnonnull 7, 3) := by decide +kernel
theorem nd_GK_fault_10 : decode nc_GK_fault 10 = .ok (.iconst (-1), 1) := by decide +kernel
theorem nd_GK_fault_11 : decode nc_GK_fault 11 = .ok (.goto 7, 3) := by decide +kernel
theorem nd_GK_fault_14 : decode nc_GK_fault 14 = .ok (.aload_n 2, 1) := by decide +kernel
theorem nd_GK_fault_15 : decode nc_GK_fault 15 = .ok (.getfield 159, 3) := by decide +kernel
theorem nd_GK_fault_18 : decode nc_GK_fault 18 = .ok (.ireturn, 1) := by decide +kernel
theorem nd_GK_faults_0 : decode nc_GK_faults 0 = .ok (.aload_n 0, 1) := by decide +kernel
theorem nd_GK_faults_1 : decode nc_GK_faults 1 = .ok (.iload_n 1, 1) := by decide +kernel
theorem nd_GK_faults_2 : decode nc_GK_faults 2 = .ok (.invokevirtual 119, 3) := by decide +kernel
theorem nd_GK_faults_5 : decode nc_GK_faults 5 = .ok (.astore_n 2, 1) := by decide +kernel
theorem nd_GK_faults_6 : decode nc_GK_faults 6 = .ok (.aload_n 2, 1) := by decide +kernel
theorem nd_GK_faults_7 : decode nc_GK_faults 7 = .ok (.ifnonnull 7, 3) := by decide +kernel
theorem nd_GK_faults_10 : decode nc_GK_faults 10 = .ok (.iconst (-1), 1) := by decide +kernel
theorem nd_GK_faults_11 : decode nc_GK_faults 11 = .ok (.goto 7, 3) := by decide +kernel
theorem nd_GK_faults_14 : decode nc_GK_faults 14 = .ok (.aload_n 2, 1) := by decide +kernel
theorem nd_GK_faults_15 : decode nc_GK_faults 15 = .ok (.getfield 162, 3) := by decide +kernel
theorem nd_GK_faults_18 : decode nc_GK_faults 18 = .ok (.ireturn, 1) := by decide +kernel
theorem nd_GK_restart_0 : decode nc_GK_restart 0 = .ok (.aload_n 0, 1) := by decide +kernel
theorem nd_GK_restart_1 : decode nc_GK_restart 1 = .ok (.iload_n 1, 1) := by decide +kernel
theorem nd_GK_restart_2 : decode nc_GK_restart 2 = .ok (.invokevirtual 119, 3) := by decide +kernel
theorem nd_GK_restart_5 : decode nc_GK_restart 5 = .ok (.astore_n 2, 1) := by decide +kernel
theorem nd_GK_restart_6 : decode nc_GK_restart 6 = .ok (.aload_n 2, 1) := by decide +kernel
theorem nd_GK_restart_7 : decode nc_GK_restart 7 = .ok (.ifnonnull 5, 3) := by decide +kernel
theorem nd_GK_restart_10 : decode nc_GK_restart 10 = .ok (.iconst 0, 1) := by decide +kernel
theorem nd_GK_restart_11 : decode nc_GK_restart 11 = .ok (.ireturn, 1) := by decide +kernel
theorem nd_GK_restart_12 : decode nc_GK_restart 12 = .ok (.aload_n 2, 1) := by decide +kernel
theorem nd_GK_restart_13 : decode nc_GK_restart 13 = .ok (.invokevirtual 165, 3) := by decide +kernel
theorem nd_GK_restart_16 : decode nc_GK_restart 16 = .ok (.iconst 1, 1) := by decide +kernel
theorem nd_GK_restart_17 : decode nc_GK_restart 17 = .ok (.ireturn, 1) := by decide +kernel
theorem nd_GK_stop_0 : decode nc_GK_stop 0 = .ok (.aload_n 0, 1) := by decide +kernel
theorem nd_GK_stop_1 : decode nc_GK_stop 1 = .ok (.iload_n 1, 1) := by decide +kernel
theorem nd_GK_stop_2 : decode nc_GK_stop 2 = .ok (.invokevirtual 119, 3) := by decide +kernel
theorem nd_GK_stop_5 : decode nc_GK_stop 5 = .ok (.astore_n 2, 1) := by decide +kernel
theorem nd_GK_stop_6 : decode nc_GK_stop 6 = .ok (.aload_n 2, 1) := by decide +kernel
theorem nd_GK_stop_7 : decode nc_GK_stop 7 = .ok (.ifnull 11, 3) := by decide +kernel
theorem nd_GK_stop_10 : decode nc_GK_stop 10 = .ok (.aload_n 2, 1) := by decide +kernel
theorem nd_GK_stop_11 : decode nc_GK_stop 11 = .ok (.getfield 123, 3) := by decide +kernel
theorem nd_GK_stop_14 : decode nc_GK_stop 14 = .ok (.iconst 2, 1) := by decide +kernel
theorem nd_GK_stop_15 : decode nc_GK_stop 15 = .ok (.if_icmp .ne 5, 3) := by decide +kernel
theorem nd_GK_stop_18 : decode nc_GK_stop 18 = .ok (.iconst 0, 1) := by decide +kernel
theorem nd_GK_stop_19 : decode nc_GK_stop 19 = .ok (.ireturn, 1) := by decide +kernel
theorem nd_GK_stop_20 : decode nc_GK_stop 20 = .ok (.aload_n 2, 1) := by decide +kernel
theorem nd_GK_stop_21 : decode nc_GK_stop 21 = .ok (.invokevirtual 168, 3) := by decide +kernel
theorem nd_GK_stop_24 : decode nc_GK_stop 24 = .ok (.iconst 1, 1) := by decide +kernel
theorem nd_GK_stop_25 : decode nc_GK_stop 25 = .ok (.ireturn, 1) := by decide +kernel
theorem nd_GK_find_0 : decode nc_GK_find 0 = .ok (.iload_n 1, 1) := by decide +kernel
theorem nd_GK_find_1 : decode nc_GK_find 1 = .ok (.ifCond .lt 11, 3) := by decide +kernel
theorem nd_GK_find_4 : decode nc_GK_find 4 = .ok (.iload_n 1, 1) := by decide +kernel
theorem nd_GK_find_5 : decode nc_GK_find 5 = .ok (.aload_n 0, 1) := by decide +kernel
theorem nd_GK_find_6 : decode nc_GK_find 6 = .ok (.getfield 83, 3) := by decide +kernel
theorem nd_GK_find_9 : decode nc_GK_find 9 = .ok (.if_icmp .lt 7, 3) := by decide +kernel
theorem nd_GK_find_12 : decode nc_GK_find 12 = .ok (.aconst_null, 1) := by decide +kernel
theorem nd_GK_find_13 : decode nc_GK_find 13 = .ok (.goto 9, 3) := by decide +kernel
theorem nd_GK_find_16 : decode nc_GK_find 16 = .ok (.aload_n 0, 1) := by decide +kernel
theorem nd_GK_find_17 : decode nc_GK_find 17 = .ok (.getfield 18, 3) := by decide +kernel
theorem nd_GK_find_20 : decode nc_GK_find 20 = .ok (.iload_n 1, 1) := by decide +kernel
theorem nd_GK_find_21 : decode nc_GK_find 21 = .ok (.aaload, 1) := by decide +kernel
theorem nd_GK_find_22 : decode nc_GK_find 22 = .ok (.areturn, 1) := by decide +kernel
theorem nd_GK_giveTurn_0 : decode nc_GK_giveTurn 0 = .ok (.aload_n 0, 1) := by decide +kernel
theorem nd_GK_giveTurn_1 : decode nc_GK_giveTurn 1 = .ok (.getfield 57, 3) := by decide +kernel
theorem nd_GK_giveTurn_4 : decode nc_GK_giveTurn 4 = .ok (.iconst (-1), 1) := by decide +kernel
theorem nd_GK_giveTurn_5 : decode nc_GK_giveTurn 5 = .ok (.if_icmp .eq 27, 3) := by decide +kernel
theorem nd_GK_giveTurn_8 : decode nc_GK_giveTurn 8 = .ok (.aload_n 0, 1) := by decide +kernel
theorem nd_GK_giveTurn_9 : decode nc_GK_giveTurn 9 = .ok (.getfield 76, 3) := by decide +kernel
theorem nd_GK_giveTurn_12 : decode nc_GK_giveTurn 12 = .ok (.ifCond .le 20, 3) := by decide +kernel
theorem nd_GK_giveTurn_15 : decode nc_GK_giveTurn 15 = .ok (.aload_n 0, 1) := by decide +kernel
theorem nd_GK_giveTurn_16 : decode nc_GK_giveTurn 16 = .ok (.getfield 18, 3) := by decide +kernel
theorem nd_GK_giveTurn_19 : decode nc_GK_giveTurn 19 = .ok (.aload_n 0, 1) := by decide +kernel
theorem nd_GK_giveTurn_20 : decode nc_GK_giveTurn 20 = .ok (.getfield 57, 3) := by decide +kernel
theorem nd_GK_giveTurn_23 : decode nc_GK_giveTurn 23 = .ok (.aaload, 1) := by decide +kernel
theorem nd_GK_giveTurn_24 : decode nc_GK_giveTurn 24 = .ok (.getfield 123, 3) := by decide +kernel
theorem nd_GK_giveTurn_27 : decode nc_GK_giveTurn 27 = .ok (.ifCond .ne 5, 3) := by decide +kernel
theorem nd_GK_giveTurn_30 : decode nc_GK_giveTurn 30 = .ok (.iconst 1, 1) := by decide +kernel
theorem nd_GK_giveTurn_31 : decode nc_GK_giveTurn 31 = .ok (.ireturn, 1) := by decide +kernel
theorem nd_GK_giveTurn_32 : decode nc_GK_giveTurn 32 = .ok (.aload_n 0, 1) := by decide +kernel
theorem nd_GK_giveTurn_33 : decode nc_GK_giveTurn 33 = .ok (.getfield 57, 3) := by decide +kernel
theorem nd_GK_giveTurn_36 : decode nc_GK_giveTurn 36 = .ok (.istore_n 1, 1) := by decide +kernel
theorem nd_GK_giveTurn_37 : decode nc_GK_giveTurn 37 = .ok (.iconst 0, 1) := by decide +kernel
theorem nd_GK_giveTurn_38 : decode nc_GK_giveTurn 38 = .ok (.istore_n 2, 1) := by decide +kernel
theorem nd_GK_giveTurn_39 : decode nc_GK_giveTurn 39 = .ok (.iload_n 2, 1) := by decide +kernel
theorem nd_GK_giveTurn_40 : decode nc_GK_giveTurn 40 = .ok (.aload_n 0, 1) := by decide +kernel
theorem nd_GK_giveTurn_41 : decode nc_GK_giveTurn 41 = .ok (.getfield 83, 3) := by decide +kernel
theorem nd_GK_giveTurn_44 : decode nc_GK_giveTurn 44 = .ok (.if_icmp .ge 52, 3) := by decide +kernel
theorem nd_GK_giveTurn_47 : decode nc_GK_giveTurn 47 = .ok (.iload_n 1, 1) := by decide +kernel
theorem nd_GK_giveTurn_48 : decode nc_GK_giveTurn 48 = .ok (.iconst 1, 1) := by decide +kernel
theorem nd_GK_giveTurn_49 : decode nc_GK_giveTurn 49 = .ok (.iadd, 1) := by decide +kernel
theorem nd_GK_giveTurn_50 : decode nc_GK_giveTurn 50 = .ok (.aload_n 0, 1) := by decide +kernel
theorem nd_GK_giveTurn_51 : decode nc_GK_giveTurn 51 = .ok (.getfield 83, 3) := by decide +kernel
theorem nd_GK_giveTurn_54 : decode nc_GK_giveTurn 54 = .ok (.if_icmp .ge 9, 3) := by decide +kernel
theorem nd_GK_giveTurn_57 : decode nc_GK_giveTurn 57 = .ok (.iload_n 1, 1) := by decide +kernel
theorem nd_GK_giveTurn_58 : decode nc_GK_giveTurn 58 = .ok (.iconst 1, 1) := by decide +kernel
theorem nd_GK_giveTurn_59 : decode nc_GK_giveTurn 59 = .ok (.iadd, 1) := by decide +kernel
theorem nd_GK_giveTurn_60 : decode nc_GK_giveTurn 60 = .ok (.goto 4, 3) := by decide +kernel
theorem nd_GK_giveTurn_63 : decode nc_GK_giveTurn 63 = .ok (.iconst 0, 1) := by decide +kernel
theorem nd_GK_giveTurn_64 : decode nc_GK_giveTurn 64 = .ok (.istore_n 1, 1) := by decide +kernel
theorem nd_GK_giveTurn_65 : decode nc_GK_giveTurn 65 = .ok (.aload_n 0, 1) := by decide +kernel
theorem nd_GK_giveTurn_66 : decode nc_GK_giveTurn 66 = .ok (.getfield 18, 3) := by decide +kernel
theorem nd_GK_giveTurn_69 : decode nc_GK_giveTurn 69 = .ok (.iload_n 1, 1) := by decide +kernel
theorem nd_GK_giveTurn_70 : decode nc_GK_giveTurn 70 = .ok (.aaload, 1) := by decide +kernel
theorem nd_GK_giveTurn_71 : decode nc_GK_giveTurn 71 = .ok (.getfield 123, 3) := by decide +kernel
theorem nd_GK_giveTurn_74 : decode nc_GK_giveTurn 74 = .ok (.ifCond .ne 16, 3) := by decide +kernel
theorem nd_GK_giveTurn_77 : decode nc_GK_giveTurn 77 = .ok (.aload_n 0, 1) := by decide +kernel
theorem nd_GK_giveTurn_78 : decode nc_GK_giveTurn 78 = .ok (.iload_n 1, 1) := by decide +kernel
theorem nd_GK_giveTurn_79 : decode nc_GK_giveTurn 79 = .ok (.putfield 57, 3) := by decide +kernel
theorem nd_GK_giveTurn_82 : decode nc_GK_giveTurn 82 = .ok (.aload_n 0, 1) := by decide +kernel
theorem nd_GK_giveTurn_83 : decode nc_GK_giveTurn 83 = .ok (.bipush 10, 2) := by decide +kernel
theorem nd_GK_giveTurn_85 : decode nc_GK_giveTurn 85 = .ok (.putfield 76, 3) := by decide +kernel
theorem nd_GK_giveTurn_88 : decode nc_GK_giveTurn 88 = .ok (.iconst 1, 1) := by decide +kernel
theorem nd_GK_giveTurn_89 : decode nc_GK_giveTurn 89 = .ok (.ireturn, 1) := by decide +kernel
theorem nd_GK_giveTurn_90 : decode nc_GK_giveTurn 90 = .ok (.iinc 2 1, 3) := by decide +kernel
theorem nd_GK_giveTurn_93 : decode nc_GK_giveTurn 93 = .ok (.goto (-54), 3) := by decide +kernel
theorem nd_GK_giveTurn_96 : decode nc_GK_giveTurn 96 = .ok (.iconst 0, 1) := by decide +kernel
theorem nd_GK_giveTurn_97 : decode nc_GK_giveTurn 97 = .ok (.ireturn, 1) := by decide +kernel
theorem nd_GK_doInstruction_0 : decode nc_GK_doInstruction 0 = .ok (.aload_n 1, 1) := by decide +kernel
theorem nd_GK_doInstruction_1 : decode nc_GK_doInstruction 1 = .ok (.getfield 171, 3) := by decide +kernel
theorem nd_GK_doInstruction_4 : decode nc_GK_doInstruction 4 = .ok (.ifCond .eq 13, 3) := by decide +kernel
theorem nd_GK_doInstruction_7 : decode nc_GK_doInstruction 7 = .ok (.aload_n 1, 1) := by decide +kernel
theorem nd_GK_doInstruction_8 : decode nc_GK_doInstruction 8 = .ok (.invokevirtual 175, 3) := by decide +kernel
theorem nd_GK_doInstruction_11 : decode nc_GK_doInstruction 11 = .ok (.ifCond .ne 6, 3) := by decide +kernel
theorem nd_GK_doInstruction_14 : decode nc_GK_doInstruction 14 = .ok (.bipush 6, 2) := by decide +kernel
theorem nd_GK_doInstruction_16 : decode nc_GK_doInstruction 16 = .ok (.ireturn, 1) := by decide +kernel
theorem nd_GK_doInstruction_17 : decode nc_GK_doInstruction 17 = .ok (.aload_n 0, 1) := by decide +kernel
theorem nd_GK_doInstruction_18 : decode nc_GK_doInstruction 18 = .ok (.getfield 53, 3) := by decide +kernel
theorem nd_GK_doInstruction_21 : decode nc_GK_doInstruction 21 = .ok (.aload_n 1, 1) := by decide +kernel
theorem nd_GK_doInstruction_22 : decode nc_GK_doInstruction 22 = .ok (.invokevirtual 178, 3) := by decide +kernel
theorem nd_GK_doInstruction_25 : decode nc_GK_doInstruction 25 = .ok (.ireturn, 1) := by decide +kernel
theorem nd_GK_serve_0 : decode nc_GK_serve 0 = .ok (.aload_n 1, 1) := by decide +kernel
theorem nd_GK_serve_1 : decode nc_GK_serve 1 = .ok (.aload_n 1, 1) := by decide +kernel
theorem nd_GK_serve_2 : decode nc_GK_serve 2 = .ok (.getfield 181, 3) := by decide +kernel
theorem nd_GK_serve_5 : decode nc_GK_serve 5 = .ok (.iconst 2, 1) := by decide +kernel
theorem nd_GK_serve_6 : decode nc_GK_serve 6 = .ok (.iadd, 1) := by decide +kernel
theorem nd_GK_serve_7 : decode nc_GK_serve 7 = .ok (.invokevirtual 184, 3) := by decide +kernel
theorem nd_GK_serve_10 : decode nc_GK_serve 10 = .ok (.ifCond .ne 6, 3) := by decide +kernel
theorem nd_GK_serve_13 : decode nc_GK_serve 13 = .ok (.bipush 6, 2) := by decide +kernel
theorem nd_GK_serve_15 : decode nc_GK_serve 15 = .ok (.ireturn, 1) := by decide +kernel
theorem nd_GK_serve_16 : decode nc_GK_serve 16 = .ok (.iload_n 2, 1) := by decide +kernel
theorem nd_GK_serve_17 : decode nc_GK_serve 17 = .ok (.ifCond .ne 14, 3) := by decide +kernel
theorem nd_GK_serve_20 : decode nc_GK_serve 20 = .ok (.aload_n 0, 1) := by decide +kernel
theorem nd_GK_serve_21 : decode nc_GK_serve 21 = .ok (.getfield 37, 3) := by decide +kernel
theorem nd_GK_serve_24 : decode nc_GK_serve 24 = .ok (.aload_n 1, 1) := by decide +kernel
theorem nd_GK_serve_25 : decode nc_GK_serve 25 = .ok (.invokevirtual 187, 3) := by decide +kernel
theorem nd_GK_serve_28 : decode nc_GK_serve 28 = .ok (.goto 17, 3) := by decide +kernel
theorem nd_GK_serve_31 : decode nc_GK_serve 31 = .ok (.aload_n 1, 1) := by decide +kernel
theorem nd_GK_serve_32 : decode nc_GK_serve 32 = .ok (.iconst 0, 1) := by decide +kernel
theorem nd_GK_serve_33 : decode nc_GK_serve 33 = .ok (.aload_n 0, 1) := by decide +kernel
theorem nd_GK_serve_34 : decode nc_GK_serve 34 = .ok (.getfield 37, 3) := by decide +kernel
theorem nd_GK_serve_37 : decode nc_GK_serve 37 = .ok (.aload_n 1, 1) := by decide +kernel
theorem nd_GK_serve_38 : decode nc_GK_serve 38 = .ok (.iload_n 2, 1) := by decide +kernel
theorem nd_GK_serve_39 : decode nc_GK_serve 39 = .ok (.invokevirtual 191, 3) := by decide +kernel
theorem nd_GK_serve_42 : decode nc_GK_serve 42 = .ok (.invokevirtual 194, 3) := by decide +kernel
theorem nd_GK_serve_45 : decode nc_GK_serve 45 = .ok (.iconst 0, 1) := by decide +kernel
theorem nd_GK_serve_46 : decode nc_GK_serve 46 = .ok (.ireturn, 1) := by decide +kernel
theorem nd_GK_endStep_0 : decode nc_GK_endStep 0 = .ok (.iload_n 2, 1) := by decide +kernel
theorem nd_GK_endStep_1 : decode nc_GK_endStep 1 = .ok (.istore_n 3, 1) := by decide +kernel
theorem nd_GK_endStep_2 : decode nc_GK_endStep 2 = .ok (.iload_n 3, 1) := by decide +kernel
theorem nd_GK_endStep_3 : decode nc_GK_endStep 3 = .ok (.ifCond .ne 41, 3) := by decide +kernel
theorem nd_GK_endStep_6 : decode nc_GK_endStep 6 = .ok (.aload_n 0, 1) := by decide +kernel
theorem nd_GK_endStep_7 : decode nc_GK_endStep 7 = .ok (.dup, 1) := by decide +kernel
theorem nd_GK_endStep_8 : decode nc_GK_endStep 8 = .ok (.getfield 76, 3) := by decide +kernel
theorem nd_GK_endStep_11 : decode nc_GK_endStep 11 = .ok (.iconst 1, 1) := by decide +kernel
theorem nd_GK_endStep_12 : decode nc_GK_endStep 12 = .ok (.isub, 1) := by decide +kernel
theorem nd_GK_endStep_13 : decode nc_GK_endStep 13 = .ok (.putfield 76, 3) := by decide +kernel
theorem nd_GK_endStep_16 : decode nc_GK_endStep 16 = .ok (.aload_n 0, 1) := by decide +kernel
theorem nd_GK_endStep_17 : decode nc_GK_endStep 17 = .ok (.getfield 76, 3) := by decide +kernel
theorem nd_GK_endStep_20 : decode nc_GK_endStep 20 = .ok (.ifCond .ne 24, 3) := by decide +kernel
theorem nd_GK_endStep_23 : decode nc_GK_endStep 23 = .ok (.aload_n 1, 1) := by decide +kernel
theorem nd_GK_endStep_24 : decode nc_GK_endStep 24 = .ok (.getfield 171, 3) := by decide +kernel
theorem nd_GK_endStep_27 : decode nc_GK_endStep 27 = .ok (.ifCond .ne 17, 3) := by decide +kernel
theorem nd_GK_endStep_30 : decode nc_GK_endStep 30 = .ok (.aload_n 1, 1) := by decide +kernel
theorem nd_GK_endStep_31 : decode nc_GK_endStep 31 = .ok (.aload_n 1, 1) := by decide +kernel
theorem nd_GK_endStep_32 : decode nc_GK_endStep 32 = .ok (.getfield 181, 3) := by decide +kernel
theorem nd_GK_endStep_35 : decode nc_GK_endStep 35 = .ok (.invokevirtual 184, 3) := by decide +kernel
theorem nd_GK_endStep_38 : decode nc_GK_endStep 38 = .ok (.ifCond .ne 6, 3) := by decide +kernel
theorem nd_GK_endStep_41 : decode nc_GK_endStep 41 = .ok (.bipush 6, 2) := by decide +kernel
theorem nd_GK_endStep_43 : decode nc_GK_endStep 43 = .ok (.istore_n 3, 1) := by decide +kernel
theorem nd_GK_endStep_44 : decode nc_GK_endStep 44 = .ok (.iload_n 3, 1) := by decide +kernel
theorem nd_GK_endStep_45 : decode nc_GK_endStep 45 = .ok (.ifCond .eq 13, 3) := by decide +kernel
theorem nd_GK_endStep_48 : decode nc_GK_endStep 48 = .ok (.aload_n 0, 1) := by decide +kernel
theorem nd_GK_endStep_49 : decode nc_GK_endStep 49 = .ok (.iconst 0, 1) := by decide +kernel
theorem nd_GK_endStep_50 : decode nc_GK_endStep 50 = .ok (.putfield 76, 3) := by decide +kernel
theorem nd_GK_endStep_53 : decode nc_GK_endStep 53 = .ok (.aload_n 1, 1) := by decide +kernel
theorem nd_GK_endStep_54 : decode nc_GK_endStep 54 = .ok (.iload_n 3, 1) := by decide +kernel
theorem nd_GK_endStep_55 : decode nc_GK_endStep 55 = .ok (.invokevirtual 197, 3) := by decide +kernel
theorem nd_GK_endStep_58 : decode nc_GK_endStep 58 = .ok (.return_, 1) := by decide +kernel
theorem nd_Me_init_0 : decode nc_Me_init 0 = .ok (.aload_n 0, 1) := by decide +kernel
theorem nd_Me_init_1 : decode nc_Me_init 1 = .ok (.invokespecial 3, 3) := by decide +kernel
theorem nd_Me_init_4 : decode nc_Me_init 4 = .ok (.aload_n 0, 1) := by decide +kernel
theorem nd_Me_init_5 : decode nc_Me_init 5 = .ok (.sipush 256, 3) := by decide +kernel
theorem nd_Me_init_8 : decode nc_Me_init 8 = .ok (.newarray .int, 2) := by decide +kernel
theorem nd_Me_init_10 : decode nc_Me_init 10 = .ok (.putfield 9, 3) := by decide +kernel
theorem nd_Me_init_13 : decode nc_Me_init 13 = .ok (.aload_n 0, 1) := by decide +kernel
theorem nd_Me_init_14 : decode nc_Me_init 14 = .ok (.sipush 128, 3) := by decide +kernel
theorem nd_Me_init_17 : decode nc_Me_init 17 = .ok (.newarray .int, 2) := by decide +kernel
theorem nd_Me_init_19 : decode nc_Me_init 19 = .ok (.putfield 15, 3) := by decide +kernel
theorem nd_Me_init_22 : decode nc_Me_init 22 = .ok (.return_, 1) := by decide +kernel
theorem nd_Me_halfword_0 : decode nc_Me_halfword 0 = .ok (.iload_n 1, 1) := by decide +kernel
theorem nd_Me_halfword_1 : decode nc_Me_halfword 1 = .ok (.iconst 1, 1) := by decide +kernel
theorem nd_Me_halfword_2 : decode nc_Me_halfword 2 = .ok (.ishr, 1) := by decide +kernel
theorem nd_Me_halfword_3 : decode nc_Me_halfword 3 = .ok (.istore_n 2, 1) := by decide +kernel
theorem nd_Me_halfword_4 : decode nc_Me_halfword 4 = .ok (.iload_n 2, 1) := by decide +kernel
theorem nd_Me_halfword_5 : decode nc_Me_halfword 5 = .ok (.ifCond .lt 10, 3) := by decide +kernel
theorem nd_Me_halfword_8 : decode nc_Me_halfword 8 = .ok (.iload_n 2, 1) := by decide +kernel
theorem nd_Me_halfword_9 : decode nc_Me_halfword 9 = .ok (.sipush 256, 3) := by decide +kernel
theorem nd_Me_halfword_12 : decode nc_Me_halfword 12 = .ok (.if_icmp .lt 7, 3) := by decide +kernel
theorem nd_Me_halfword_15 : decode nc_Me_halfword 15 = .ok (.iconst 0, 1) := by decide +kernel
theorem nd_Me_halfword_16 : decode nc_Me_halfword 16 = .ok (.goto 9, 3) := by decide +kernel
theorem nd_Me_halfword_19 : decode nc_Me_halfword 19 = .ok (.aload_n 0, 1) := by decide +kernel
theorem nd_Me_halfword_20 : decode nc_Me_halfword 20 = .ok (.getfield 9, 3) := by decide +kernel
theorem nd_Me_halfword_23 : decode nc_Me_halfword 23 = .ok (.iload_n 2, 1) := by decide +kernel
theorem nd_Me_halfword_24 : decode nc_Me_halfword 24 = .ok (.iaload, 1) := by decide +kernel
theorem nd_Me_halfword_25 : decode nc_Me_halfword 25 = .ok (.ireturn, 1) := by decide +kernel
theorem nd_Me_flashWord_0 : decode nc_Me_flashWord 0 = .ok (.iload_n 1, 1) := by decide +kernel
theorem nd_Me_flashWord_1 : decode nc_Me_flashWord 1 = .ok (.iconst 1, 1) := by decide +kernel
theorem nd_Me_flashWord_2 : decode nc_Me_flashWord 2 = .ok (.ishr, 1) := by decide +kernel
theorem nd_Me_flashWord_3 : decode nc_Me_flashWord 3 = .ok (.istore_n 2, 1) := by decide +kernel
theorem nd_Me_flashWord_4 : decode nc_Me_flashWord 4 = .ok (.iload_n 2, 1) := by decide +kernel
theorem nd_Me_flashWord_5 : decode nc_Me_flashWord 5 = .ok (.ifCond .lt 12, 3) := by decide +kernel
theorem nd_Me_flashWord_8 : decode nc_Me_flashWord 8 = .ok (.iload_n 2, 1) := by decide +kernel
theorem nd_Me_flashWord_9 : decode nc_Me_flashWord 9 = .ok (.iconst 1, 1) := by decide +kernel
theorem nd_Me_flashWord_10 : decode nc_Me_flashWord 10 = .ok (.iadd, 1) := by decide +kernel
theorem nd_Me_flashWord_11 : decode nc_Me_flashWord 11 = .ok (.sipush 256, 3) := by decide +kernel
theorem nd_Me_flashWord_14 : decode nc_Me_flashWord 14 = .ok (.if_icmp .lt 7, 3) := by decide +kernel
theorem nd_Me_flashWord_17 : decode nc_Me_flashWord 17 = .ok (.iconst 0, 1) := by decide +kernel
theorem nd_Me_flashWord_18 : decode nc_Me_flashWord 18 = .ok (.goto 21, 3) := by decide +kernel
theorem nd_Me_flashWord_21 : decode nc_Me_flashWord 21 = .ok (.aload_n 0, 1) := by decide +kernel
theorem nd_Me_flashWord_22 : decode nc_Me_flashWord 22 = .ok (.getfield 9, 3) := by decide +kernel
theorem nd_Me_flashWord_25 : decode nc_Me_flashWord 25 = .ok (.iload_n 2, 1) := by decide +kernel
theorem nd_Me_flashWord_26 : decode nc_Me_flashWord 26 = .ok (.iaload, 1) := by decide +kernel
theorem nd_Me_flashWord_27 : decode nc_Me_flashWord 27 = .ok (.aload_n 0, 1) := by decide +kernel
theorem nd_Me_flashWord_28 : decode nc_Me_flashWord 28 = .ok (.getfield 9, 3) := by decide +kernel
theorem nd_Me_flashWord_31 : decode nc_Me_flashWord 31 = .ok (.iload_n 2, 1) := by decide +kernel
theorem nd_Me_flashWord_32 : decode nc_Me_flashWord 32 = .ok (.iconst 1, 1) := by decide +kernel
theorem nd_Me_flashWord_33 : decode nc_Me_flashWord 33 = .ok (.iadd, 1) := by decide +kernel
theorem nd_Me_flashWord_34 : decode nc_Me_flashWord 34 = .ok (.iaload, 1) := by decide +kernel
theorem nd_Me_flashWord_35 : decode nc_Me_flashWord 35 = .ok (.bipush 16, 2) := by decide +kernel
theorem nd_Me_flashWord_37 : decode nc_Me_flashWord 37 = .ok (.ishl, 1) := by decide +kernel
theorem nd_Me_flashWord_38 : decode nc_Me_flashWord 38 = .ok (.ior, 1) := by decide +kernel
theorem nd_Me_flashWord_39 : decode nc_Me_flashWord 39 = .ok (.ireturn, 1) := by decide +kernel
theorem nd_Me_ramWord_0 : decode nc_Me_ramWord 0 = .ok (.iload_n 1, 1) := by decide +kernel
theorem nd_Me_ramWord_1 : decode nc_Me_ramWord 1 = .ok (.sipush 4096, 3) := by decide +kernel
theorem nd_Me_ramWord_4 : decode nc_Me_ramWord 4 = .ok (.isub, 1) := by decide +kernel
theorem nd_Me_ramWord_5 : decode nc_Me_ramWord 5 = .ok (.iconst 2, 1) := by decide +kernel
theorem nd_Me_ramWord_6 : decode nc_Me_ramWord 6 = .ok (.ishr, 1) := by decide +kernel
theorem nd_Me_ramWord_7 : decode nc_Me_ramWord 7 = .ok (.istore_n 2, 1) := by decide +kernel
theorem nd_Me_ramWord_8 : decode nc_Me_ramWord 8 = .ok (.iload_n 2, 1) := by decide +kernel
theorem nd_Me_ramWord_9 : decode nc_Me_ramWord 9 = .ok (.ifCond .lt 10, 3) := by decide +kernel
theorem nd_Me_ramWord_12 : decode nc_Me_ramWord 12 = .ok (.iload_n 2, 1) := by decide +kernel
theorem nd_Me_ramWord_13 : decode nc_Me_ramWord 13 = .ok (.sipush 128, 3) := by decide +kernel
theorem nd_Me_ramWord_16 : decode nc_Me_ramWord 16 = .ok (.if_icmp .lt 7, 3) := by decide +kernel
theorem nd_Me_ramWord_19 : decode nc_Me_ramWord 19 = .ok (.iconst 0, 1) := by decide +kernel
theorem nd_Me_ramWord_20 : decode nc_Me_ramWord 20 = .ok (.goto 9, 3) := by decide +kernel
theorem nd_Me_ramWord_23 : decode nc_Me_ramWord 23 = .ok (.aload_n 0, 1) := by decide +kernel
theorem nd_Me_ramWord_24 : decode nc_Me_ramWord 24 = .ok (.getfield 15, 3) := by decide +kernel
theorem nd_Me_ramWord_27 : decode nc_Me_ramWord 27 = .ok (.iload_n 2, 1) := by decide +kernel
theorem nd_Me_ramWord_28 : decode nc_Me_ramWord 28 = .ok (.iaload, 1) := by decide +kernel
theorem nd_Me_ramWord_29 : decode nc_Me_ramWord 29 = .ok (.ireturn, 1) := by decide +kernel
theorem nd_Me_setRamWord_0 : decode nc_Me_setRamWord 0 = .ok (.iload_n 1, 1) := by decide +kernel
theorem nd_Me_setRamWord_1 : decode nc_Me_setRamWord 1 = .ok (.sipush 4096, 3) := by decide +kernel
theorem nd_Me_setRamWord_4 : decode nc_Me_setRamWord 4 = .ok (.isub, 1) := by decide +kernel
theorem nd_Me_setRamWord_5 : decode nc_Me_setRamWord 5 = .ok (.iconst 2, 1) := by decide +kernel
theorem nd_Me_setRamWord_6 : decode nc_Me_setRamWord 6 = .ok (.ishr, 1) := by decide +kernel
theorem nd_Me_setRamWord_7 : decode nc_Me_setRamWord 7 = .ok (.istore_n 3, 1) := by decide +kernel
theorem nd_Me_setRamWord_8 : decode nc_Me_setRamWord 8 = .ok (.iload_n 3, 1) := by decide +kernel
theorem nd_Me_setRamWord_9 : decode nc_Me_setRamWord 9 = .ok (.ifCond .lt 17, 3) := by decide +kernel
theorem nd_Me_setRamWord_12 : decode nc_Me_setRamWord 12 = .ok (.iload_n 3, 1) := by decide +kernel
theorem nd_Me_setRamWord_13 : decode nc_Me_setRamWord 13 = .ok (.sipush 128, 3) := by decide +kernel
theorem nd_Me_setRamWord_16 : decode nc_Me_setRamWord 16 = .ok (.if_icmp .ge 10, 3) := by decide +kernel
theorem nd_Me_setRamWord_19 : decode nc_Me_setRamWord 19 = .ok (.aload_n 0, 1) := by decide +kernel
theorem nd_Me_setRamWord_20 : decode nc_Me_setRamWord 20 = .ok (.getfield 15, 3) := by decide +kernel
theorem nd_Me_setRamWord_23 : decode nc_Me_setRamWord 23 = .ok (.iload_n 3, 1) := by decide +kernel
theorem nd_Me_setRamWord_24 : decode nc_Me_setRamWord 24 = .ok (.iload_n 2, 1) := by decide +kernel
theorem nd_Me_setRamWord_25 : decode nc_Me_setRamWord 25 = .ok (.iastore, 1) := by decide +kernel
theorem nd_Me_setRamWord_26 : decode nc_Me_setRamWord 26 = .ok (.return_, 1) := by decide +kernel
theorem nd_Me_clearRam_0 : decode nc_Me_clearRam 0 = .ok (.iconst 0, 1) := by decide +kernel
theorem nd_Me_clearRam_1 : decode nc_Me_clearRam 1 = .ok (.istore_n 3, 1) := by decide +kernel
theorem nd_Me_clearRam_2 : decode nc_Me_clearRam 2 = .ok (.iload_n 3, 1) := by decide +kernel
theorem nd_Me_clearRam_3 : decode nc_Me_clearRam 3 = .ok (.iload_n 2, 1) := by decide +kernel
theorem nd_Me_clearRam_4 : decode nc_Me_clearRam 4 = .ok (.if_icmp .ge 19, 3) := by decide +kernel
theorem nd_Me_clearRam_7 : decode nc_Me_clearRam 7 = .ok (.aload_n 0, 1) := by decide +kernel
theorem nd_Me_clearRam_8 : decode nc_Me_clearRam 8 = .ok (.iload_n 1, 1) := by decide +kernel
theorem nd_Me_clearRam_9 : decode nc_Me_clearRam 9 = .ok (.iconst 4, 1) := by decide +kernel
theorem nd_Me_clearRam_10 : decode nc_Me_clearRam 10 = .ok (.iload_n 3, 1) := by decide +kernel
theorem nd_Me_clearRam_11 : decode nc_Me_clearRam 11 = .ok (.imul, 1) := by decide +kernel
theorem nd_Me_clearRam_12 : decode nc_Me_clearRam 12 = .ok (.iadd, 1) := by decide +kernel
theorem nd_Me_clearRam_13 : decode nc_Me_clearRam 13 = .ok (.iconst 0, 1) := by decide +kernel
theorem nd_Me_clearRam_14 : decode nc_Me_clearRam 14 = .ok (.invokevirtual 18, 3) := by decide +kernel
theorem nd_Me_clearRam_17 : decode nc_Me_clearRam 17 = .ok (.iinc 3 1, 3) := by decide +kernel
theorem nd_Me_clearRam_20 : decode nc_Me_clearRam 20 = .ok (.goto (-18), 3) := by decide +kernel
theorem nd_Me_clearRam_23 : decode nc_Me_clearRam 23 = .ok (.return_, 1) := by decide +kernel
theorem nd_UQ_init_0 : decode nc_UQ_init 0 = .ok (.aload_n 0, 1) := by decide +kernel
theorem nd_UQ_init_1 : decode nc_UQ_init 1 = .ok (.invokespecial 1, 3) := by decide +kernel
theorem nd_UQ_init_4 : decode nc_UQ_init 4 = .ok (.aload_n 0, 1) := by decide +kernel
theorem nd_UQ_init_5 : decode nc_UQ_init 5 = .ok (.iconst 4, 1) := by decide +kernel
theorem nd_UQ_init_6 : decode nc_UQ_init 6 = .ok (.newarray .int, 2) := by decide +kernel
theorem nd_UQ_init_8 : decode nc_UQ_init 8 = .ok (.putfield 9, 3) := by decide +kernel
theorem nd_UQ_init_11 : decode nc_UQ_init 11 = .ok (.aload_n 0, 1) := by decide +kernel
theorem nd_UQ_init_12 : decode nc_UQ_init 12 = .ok (.iconst 4, 1) := by decide +kernel
theorem nd_UQ_init_13 : decode nc_UQ_init 13 = .ok (.newarray .int, 2) := by decide +kernel
theorem nd_UQ_init_15 : decode nc_UQ_init 15 = .ok (.putfield 13, 3) := by decide +kernel
theorem nd_UQ_init_18 : decode nc_UQ_init 18 = .ok (.aload_n 0, 1) := by decide +kernel
theorem nd_UQ_init_19 : decode nc_UQ_init 19 = .ok (.iconst 4, 1) := by decide +kernel
theorem nd_UQ_init_20 : decode nc_UQ_init 20 = .ok (.newarray .int, 2) := by decide +kernel
theorem nd_UQ_init_22 : decode nc_UQ_init 22 = .ok (.putfield 16, 3) := by decide +kernel
theorem nd_UQ_init_25 : decode nc_UQ_init 25 = .ok (.return_, 1) := by decide +kernel
theorem nd_UQ_enqueue_0 : decode nc_UQ_enqueue 0 = .ok (.aload_n 0, 1) := by decide +kernel
theorem nd_UQ_enqueue_1 : decode nc_UQ_enqueue 1 = .ok (.getfield 19, 3) := by decide +kernel
theorem nd_UQ_enqueue_4 : decode nc_UQ_enqueue 4 = .ok (.iconst 4, 1) := by decide +kernel
theorem nd_UQ_enqueue_5 : decode nc_UQ_enqueue 5 = .ok (.if_icmp .ge 43, 3) := by decide +kernel
theorem nd_UQ_enqueue_8 : decode nc_UQ_enqueue 8 = .ok (.aload_n 0, 1) := by decide +kernel
theorem nd_UQ_enqueue_9 : decode nc_UQ_enqueue 9 = .ok (.getfield 9, 3) := by decide +kernel
theorem nd_UQ_enqueue_12 : decode nc_UQ_enqueue 12 = .ok (.aload_n 0, 1) := by decide +kernel
theorem nd_UQ_enqueue_13 : decode nc_UQ_enqueue 13 = .ok (.getfield 19, 3) := by decide +kernel
theorem nd_UQ_enqueue_16 : decode nc_UQ_enqueue 16 = .ok (.iload_n 1, 1) := by decide +kernel
theorem nd_UQ_enqueue_17 : decode nc_UQ_enqueue 17 = .ok (.iastore, 1) := by decide +kernel
theorem nd_UQ_enqueue_18 : decode nc_UQ_enqueue 18 = .ok (.aload_n 0, 1) := by decide +kernel
theorem nd_UQ_enqueue_19 : decode nc_UQ_enqueue 19 = .ok (.getfield 13, 3) := by decide +kernel
theorem nd_UQ_enqueue_22 : decode nc_UQ_enqueue 22 = .ok (.aload_n 0, 1) := by decide +kernel
theorem nd_UQ_enqueue_23 : decode nc_UQ_enqueue 23 = .ok (.getfield 19, 3) := by decide +kernel
theorem nd_UQ_enqueue_26 : decode nc_UQ_enqueue 26 = .ok (.iload_n 2, 1) := by decide +kernel
theorem nd_UQ_enqueue_27 : decode nc_UQ_enqueue 27 = .ok (.iastore, 1) := by decide +kernel
theorem nd_UQ_enqueue_28 : decode nc_UQ_enqueue 28 = .ok (.aload_n 0, 1) := by decide +kernel
theorem nd_UQ_enqueue_29 : decode nc_UQ_enqueue 29 = .ok (.getfield 16, 3) := by decide +kernel
theorem nd_UQ_enqueue_32 : decode nc_UQ_enqueue 32 = .ok (.aload_n 0, 1) := by decide +kernel
theorem nd_UQ_enqueue_33 : decode nc_UQ_enqueue 33 = .ok (.getfield 19, 3) := by decide +kernel
theorem nd_UQ_enqueue_36 : decode nc_UQ_enqueue 36 = .ok (.iload_n 3, 1) := by decide +kernel
theorem nd_UQ_enqueue_37 : decode nc_UQ_enqueue 37 = .ok (.iastore, 1) := by decide +kernel
theorem nd_UQ_enqueue_38 : decode nc_UQ_enqueue 38 = .ok (.aload_n 0, 1) := by decide +kernel
theorem nd_UQ_enqueue_39 : decode nc_UQ_enqueue 39 = .ok (.dup, 1) := by decide +kernel
theorem nd_UQ_enqueue_40 : decode nc_UQ_enqueue 40 = .ok (.getfield 19, 3) := by decide +kernel
theorem nd_UQ_enqueue_43 : decode nc_UQ_enqueue 43 = .ok (.iconst 1, 1) := by decide +kernel
theorem nd_UQ_enqueue_44 : decode nc_UQ_enqueue 44 = .ok (.iadd, 1) := by decide +kernel
theorem nd_UQ_enqueue_45 : decode nc_UQ_enqueue 45 = .ok (.putfield 19, 3) := by decide +kernel
theorem nd_UQ_enqueue_48 : decode nc_UQ_enqueue 48 = .ok (.return_, 1) := by decide +kernel
theorem nd_UQ_removeOldest_0 : decode nc_UQ_removeOldest 0 = .ok (.iconst 1, 1) := by decide +kernel
theorem nd_UQ_removeOldest_1 : decode nc_UQ_removeOldest 1 = .ok (.istore_n 1, 1) := by decide +kernel
theorem nd_UQ_removeOldest_2 : decode nc_UQ_removeOldest 2 = .ok (.iload_n 1, 1) := by decide +kernel
theorem nd_UQ_removeOldest_3 : decode nc_UQ_removeOldest 3 = .ok (.aload_n 0, 1) := by decide +kernel
theorem nd_UQ_removeOldest_4 : decode nc_UQ_removeOldest 4 = .ok (.getfield 19, 3) := by decide +kernel
theorem nd_UQ_removeOldest_7 : decode nc_UQ_removeOldest 7 = .ok (.if_icmp .ge 17, 3) := by decide +kernel
theorem nd_UQ_removeOldest_10 : decode nc_UQ_removeOldest 10 = .ok (.aload_n 0, 1) := by decide +kernel
theorem nd_UQ_removeOldest_11 : decode nc_UQ_removeOldest 11 = .ok (.iload_n 1, 1) := by decide +kernel
theorem nd_UQ_removeOldest_12 : decode nc_UQ_removeOldest 12 = .ok (.iload_n 1, 1) := by decide +kernel
theorem nd_UQ_removeOldest_13 : decode nc_UQ_removeOldest 13 = .ok (.iconst 1, 1) := by decide +kernel
theorem nd_UQ_removeOldest_14 : decode nc_UQ_removeOldest 14 = .ok (.isub, 1) := by decide +kernel
theorem nd_UQ_removeOldest_15 : decode nc_UQ_removeOldest 15 = .ok (.invokevirtual 23, 3) := by decide +kernel
theorem nd_UQ_removeOldest_18 : decode nc_UQ_removeOldest 18 = .ok (.iinc 1 1, 3) := by decide +kernel
theorem nd_UQ_removeOldest_21 : decode nc_UQ_removeOldest 21 = .ok (.goto (-19), 3) := by decide +kernel
theorem nd_UQ_removeOldest_24 : decode nc_UQ_removeOldest 24 = .ok (.aload_n 0, 1) := by decide +kernel
theorem nd_UQ_removeOldest_25 : decode nc_UQ_removeOldest 25 = .ok (.aload_n 0, 1) := by decide +kernel
theorem nd_UQ_removeOldest_26 : decode nc_UQ_removeOldest 26 = .ok (.getfield 19, 3) := by decide +kernel
theorem nd_UQ_removeOldest_29 : decode nc_UQ_removeOldest 29 = .ok (.iconst 1, 1) := by decide +kernel
theorem nd_UQ_removeOldest_30 : decode nc_UQ_removeOldest 30 = .ok (.isub, 1) := by decide +kernel
theorem nd_UQ_removeOldest_31 : decode nc_UQ_removeOldest 31 = .ok (.iconst 0, 1) := by decide +kernel
theorem nd_UQ_removeOldest_32 : decode nc_UQ_removeOldest 32 = .ok (.invokestatic 27, 3) := by decide +kernel
theorem nd_UQ_removeOldest_35 : decode nc_UQ_removeOldest 35 = .ok (.putfield 19, 3) := by decide +kernel
theorem nd_UQ_removeOldest_38 : decode nc_UQ_removeOldest 38 = .ok (.return_, 1) := by decide +kernel
theorem nd_UQ_removeDriver_0 : decode nc_UQ_removeDriver 0 = .ok (.iconst 0, 1) := by decide +kernel
theorem nd_UQ_removeDriver_1 : decode nc_UQ_removeDriver 1 = .ok (.istore_n 2, 1) := by decide +kernel
theorem nd_UQ_removeDriver_2 : decode nc_UQ_removeDriver 2 = .ok (.iconst 0, 1) := by decide +kernel
theorem nd_UQ_removeDriver_3 : decode nc_UQ_removeDriver 3 = .ok (.istore_n 3, 1) := by decide +kernel
theorem nd_UQ_removeDriver_4 : decode nc_UQ_removeDriver 4 = .ok (.iload_n 3, 1) := by decide +kernel
theorem nd_UQ_removeDriver_5 : decode nc_UQ_removeDriver 5 = .ok (.aload_n 0, 1) := by decide +kernel
theorem nd_UQ_removeDriver_6 : decode nc_UQ_removeDriver 6 = .ok (.getfield 19, 3) := by decide +kernel
theorem nd_UQ_removeDriver_9 : decode nc_UQ_removeDriver 9 = .ok (.if_icmp .ge 28, 3) := by decide +kernel
theorem nd_UQ_removeDriver_12 : decode nc_UQ_removeDriver 12 = .ok (.aload_n 0, 1) := by decide +kernel
theorem nd_UQ_removeDriver_13 : decode nc_UQ_removeDriver 13 = .ok (.getfield 9, 3) := by decide +kernel
theorem nd_UQ_removeDriver_16 : decode nc_UQ_removeDriver 16 = .ok (.iload_n 3, 1) := by decide +kernel
theorem nd_UQ_removeDriver_17 : decode nc_UQ_removeDriver 17 = .ok (.iaload, 1) := by decide +kernel
theorem nd_UQ_removeDriver_18 : decode nc_UQ_removeDriver 18 = .ok (.iload_n 1, 1) := by decide +kernel
theorem nd_UQ_removeDriver_19 : decode nc_UQ_removeDriver 19 = .ok (.if_icmp .eq 12, 3) := by decide +kernel
theorem nd_UQ_removeDriver_22 : decode nc_UQ_removeDriver 22 = .ok (.aload_n 0, 1) := by decide +kernel
theorem nd_UQ_removeDriver_23 : decode nc_UQ_removeDriver 23 = .ok (.iload_n 3, 1) := by decide +kernel
theorem nd_UQ_removeDriver_24 : decode nc_UQ_removeDriver 24 = .ok (.iload_n 2, 1) := by decide +kernel
theorem nd_UQ_removeDriver_25 : decode nc_UQ_removeDriver 25 = .ok (.invokevirtual 23, 3) := by decide +kernel
theorem nd_UQ_removeDriver_28 : decode nc_UQ_removeDriver 28 = .ok (.iinc 2 1, 3) := by decide +kernel
theorem nd_UQ_removeDriver_31 : decode nc_UQ_removeDriver 31 = .ok (.iinc 3 1, 3) := by decide +kernel
theorem nd_UQ_removeDriver_34 : decode nc_UQ_removeDriver 34 = .ok (.goto (-30), 3) := by decide +kernel
theorem nd_UQ_removeDriver_37 : decode nc_UQ_removeDriver 37 = .ok (.aload_n 0, 1) := by decide +kernel
theorem nd_UQ_removeDriver_38 : decode nc_UQ_removeDriver 38 = .ok (.iload_n 2, 1) := by decide +kernel
theorem nd_UQ_removeDriver_39 : decode nc_UQ_removeDriver 39 = .ok (.putfield 19, 3) := by decide +kernel
theorem nd_UQ_removeDriver_42 : decode nc_UQ_removeDriver 42 = .ok (.return_, 1) := by decide +kernel
theorem nd_UQ_move_0 : decode nc_UQ_move 0 = .ok (.aload_n 0, 1) := by decide +kernel
theorem nd_UQ_move_1 : decode nc_UQ_move 1 = .ok (.getfield 9, 3) := by decide +kernel
theorem nd_UQ_move_4 : decode nc_UQ_move 4 = .ok (.iload_n 2, 1) := by decide +kernel
theorem nd_UQ_move_5 : decode nc_UQ_move 5 = .ok (.aload_n 0, 1) := by decide +kernel
theorem nd_UQ_move_6 : decode nc_UQ_move 6 = .ok (.getfield 9, 3) := by decide +kernel
theorem nd_UQ_move_9 : decode nc_UQ_move 9 = .ok (.iload_n 1, 1) := by decide +kernel
theorem nd_UQ_move_10 : decode nc_UQ_move 10 = .ok (.iaload, 1) := by decide +kernel
theorem nd_UQ_move_11 : decode nc_UQ_move 11 = .ok (.iastore, 1) := by decide +kernel
theorem nd_UQ_move_12 : decode nc_UQ_move 12 = .ok (.aload_n 0, 1) := by decide +kernel
theorem nd_UQ_move_13 : decode nc_UQ_move 13 = .ok (.getfield 13, 3) := by decide +kernel
theorem nd_UQ_move_16 : decode nc_UQ_move 16 = .ok (.iload_n 2, 1) := by decide +kernel
theorem nd_UQ_move_17 : decode nc_UQ_move 17 = .ok (.aload_n 0, 1) := by decide +kernel
theorem nd_UQ_move_18 : decode nc_UQ_move 18 = .ok (.getfield 13, 3) := by decide +kernel
theorem nd_UQ_move_21 : decode nc_UQ_move 21 = .ok (.iload_n 1, 1) := by decide +kernel
theorem nd_UQ_move_22 : decode nc_UQ_move 22 = .ok (.iaload, 1) := by decide +kernel
theorem nd_UQ_move_23 : decode nc_UQ_move 23 = .ok (.iastore, 1) := by decide +kernel
theorem nd_UQ_move_24 : decode nc_UQ_move 24 = .ok (.aload_n 0, 1) := by decide +kernel
theorem nd_UQ_move_25 : decode nc_UQ_move 25 = .ok (.getfield 16, 3) := by decide +kernel
theorem nd_UQ_move_28 : decode nc_UQ_move 28 = .ok (.iload_n 2, 1) := by decide +kernel
theorem nd_UQ_move_29 : decode nc_UQ_move 29 = .ok (.aload_n 0, 1) := by decide +kernel
theorem nd_UQ_move_30 : decode nc_UQ_move 30 = .ok (.getfield 16, 3) := by decide +kernel
theorem nd_UQ_move_33 : decode nc_UQ_move 33 = .ok (.iload_n 1, 1) := by decide +kernel
theorem nd_UQ_move_34 : decode nc_UQ_move 34 = .ok (.iaload, 1) := by decide +kernel
theorem nd_UQ_move_35 : decode nc_UQ_move 35 = .ok (.iastore, 1) := by decide +kernel
theorem nd_UQ_move_36 : decode nc_UQ_move 36 = .ok (.return_, 1) := by decide +kernel
theorem nd_No_init_0 : decode nc_No_init 0 = .ok (.aload_n 0, 1) := by decide +kernel
theorem nd_No_init_1 : decode nc_No_init 1 = .ok (.invokespecial 3, 3) := by decide +kernel
theorem nd_No_init_4 : decode nc_No_init 4 = .ok (.aload_n 0, 1) := by decide +kernel
theorem nd_No_init_5 : decode nc_No_init 5 = .ok (.iconst 3, 1) := by decide +kernel
theorem nd_No_init_6 : decode nc_No_init 6 = .ok (.newarray .int, 2) := by decide +kernel
theorem nd_No_init_8 : decode nc_No_init 8 = .ok (.putfield 9, 3) := by decide +kernel
theorem nd_No_init_11 : decode nc_No_init 11 = .ok (.aload_n 0, 1) := by decide +kernel
theorem nd_No_init_12 : decode nc_No_init 12 = .ok (.iconst 3, 1) := by decide +kernel
theorem nd_No_init_13 : decode nc_No_init 13 = .ok (.newarray .int, 2) := by decide +kernel
theorem nd_No_init_15 : decode nc_No_init 15 = .ok (.putfield 15, 3) := by decide +kernel
theorem nd_No_init_18 : decode nc_No_init 18 = .ok (.aload_n 0, 1) := by decide +kernel
theorem nd_No_init_19 : decode nc_No_init 19 = .ok (.iconst 3, 1) := by decide +kernel
theorem nd_No_init_20 : decode nc_No_init 20 = .ok (.newarray .int, 2) := by decide +kernel
theorem nd_No_init_22 : decode nc_No_init 22 = .ok (.putfield 18, 3) := by decide +kernel
theorem nd_No_init_25 : decode nc_No_init 25 = .ok (.aload_n 0, 1) := by decide +kernel
theorem nd_No_init_26 : decode nc_No_init 26 = .ok (.iconst 3, 1) := by decide +kernel
theorem nd_No_init_27 : decode nc_No_init 27 = .ok (.newarray .int, 2) := by decide +kernel
theorem nd_No_init_29 : decode nc_No_init 29 = .ok (.putfield 21, 3) := by decide +kernel
theorem nd_No_init_32 : decode nc_No_init 32 = .ok (.aload_n 0, 1) := by decide +kernel
theorem nd_No_init_33 : decode nc_No_init 33 = .ok (.iconst 3, 1) := by decide +kernel
theorem nd_No_init_34 : decode nc_No_init 34 = .ok (.newarray .int, 2) := by decide +kernel
theorem nd_No_init_36 : decode nc_No_init 36 = .ok (.putfield 24, 3) := by decide +kernel
theorem nd_No_init_39 : decode nc_No_init 39 = .ok (.aload_n 0, 1) := by decide +kernel
theorem nd_No_init_40 : decode nc_No_init 40 = .ok (.new 27, 3) := by decide +kernel
theorem nd_No_init_43 : decode nc_No_init 43 = .ok (.dup, 1) := by decide +kernel
theorem nd_No_init_44 : decode nc_No_init 44 = .ok (.invokespecial 29, 3) := by decide +kernel
theorem nd_No_init_47 : decode nc_No_init 47 = .ok (.putfield 30, 3) := by decide +kernel
theorem nd_No_init_50 : decode nc_No_init 50 = .ok (.return_, 1) := by decide +kernel
theorem nd_No_hasGrant_0 : decode nc_No_hasGrant 0 = .ok (.aload_n 0, 1) := by decide +kernel
theorem nd_No_hasGrant_1 : decode nc_No_hasGrant 1 = .ok (.getfield 9, 3) := by decide +kernel
theorem nd_No_hasGrant_4 : decode nc_No_hasGrant 4 = .ok (.iload_n 1, 1) := by decide +kernel
theorem nd_No_hasGrant_5 : decode nc_No_hasGrant 5 = .ok (.iaload, 1) := by decide +kernel
theorem nd_No_hasGrant_6 : decode nc_No_hasGrant 6 = .ok (.ifCond .eq 7, 3) := by decide +kernel
theorem nd_No_hasGrant_9 : decode nc_No_hasGrant 9 = .ok (.iconst 1, 1) := by decide +kernel
theorem nd_No_hasGrant_10 : decode nc_No_hasGrant 10 = .ok (.goto 4, 3) := by decide +kernel
theorem nd_No_hasGrant_13 : decode nc_No_hasGrant 13 = .ok (.iconst 0, 1) := by decide +kernel
theorem nd_No_hasGrant_14 : decode nc_No_hasGrant 14 = .ok (.ireturn, 1) := by decide +kernel
theorem nd_No_clear_0 : decode nc_No_clear 0 = .ok (.iconst 0, 1) := by decide +kernel
theorem nd_No_clear_1 : decode nc_No_clear 1 = .ok (.istore_n 1, 1) := by decide +kernel
theorem nd_No_clear_2 : decode nc_No_clear 2 = .ok (.iload_n 1, 1) := by decide +kernel
theorem nd_No_clear_3 : decode nc_No_clear 3 = .ok (.iconst 3, 1) := by decide +kernel
theorem nd_No_clear_4 : decode nc_No_clear 4 = .ok (.if_icmp .ge 44, 3) := by decide +kernel
theorem nd_No_clear_7 : decode nc_No_clear 7 = .ok (.aload_n 0, 1) := by decide +kernel
theorem nd_No_clear_8 : decode nc_No_clear 8 = .ok (.getfield 9, 3) := by decide +kernel
theorem nd_No_clear_11 : decode nc_No_clear 11 = .ok (.iload_n 1, 1) := by decide +kernel
theorem nd_No_clear_12 : decode nc_No_clear 12 = .ok (.iconst 0, 1) := by decide +kernel
theorem nd_No_clear_13 : decode nc_No_clear 13 = .ok (.iastore, 1) := by decide +kernel
theorem nd_No_clear_14 : decode nc_No_clear 14 = .ok (.aload_n 0, 1) := by decide +kernel
theorem nd_No_clear_15 : decode nc_No_clear 15 = .ok (.getfield 15, 3) := by decide +kernel
theorem nd_No_clear_18 : decode nc_No_clear 18 = .ok (.iload_n 1, 1) := by decide +kernel
theorem nd_No_clear_19 : decode nc_No_clear 19 = .ok (.iconst 0, 1) := by decide +kernel
theorem nd_No_clear_20 : decode nc_No_clear 20 = .ok (.iastore, 1) := by decide +kernel
theorem nd_No_clear_21 : decode nc_No_clear 21 = .ok (.aload_n 0, 1) := by decide +kernel
theorem nd_No_clear_22 : decode nc_No_clear 22 = .ok (.getfield 18, 3) := by decide +kernel
theorem nd_No_clear_25 : decode nc_No_clear 25 = .ok (.iload_n 1, 1) := by decide +kernel
theorem nd_No_clear_26 : decode nc_No_clear 26 = .ok (.iconst 0, 1) := by decide +kernel
theorem nd_No_clear_27 : decode nc_No_clear 27 = .ok (.iastore, 1) := by decide +kernel
theorem nd_No_clear_28 : decode nc_No_clear 28 = .ok (.aload_n 0, 1) := by decide +kernel
theorem nd_No_clear_29 : decode nc_No_clear 29 = .ok (.getfield 21, 3) := by decide +kernel
theorem nd_No_clear_32 : decode nc_No_clear 32 = .ok (.iload_n 1, 1) := by decide +kernel
theorem nd_No_clear_33 : decode nc_No_clear 33 = .ok (.iconst 0, 1) := by decide +kernel
theorem nd_No_clear_34 : decode nc_No_clear 34 = .ok (.iastore, 1) := by decide +kernel
theorem nd_No_clear_35 : decode nc_No_clear 35 = .ok (.aload_n 0, 1) := by decide +kernel
theorem nd_No_clear_36 : decode nc_No_clear 36 = .ok (.getfield 24, 3) := by decide +kernel
theorem nd_No_clear_39 : decode nc_No_clear 39 = .ok (.iload_n 1, 1) := by decide +kernel
theorem nd_No_clear_40 : decode nc_No_clear 40 = .ok (.iconst 0, 1) := by decide +kernel
theorem nd_No_clear_41 : decode nc_No_clear 41 = .ok (.iastore, 1) := by decide +kernel
theorem nd_No_clear_42 : decode nc_No_clear 42 = .ok (.iinc 1 1, 3) := by decide +kernel
theorem nd_No_clear_45 : decode nc_No_clear 45 = .ok (.goto (-43), 3) := by decide +kernel
theorem nd_No_clear_48 : decode nc_No_clear 48 = .ok (.aload_n 0, 1) := by decide +kernel
theorem nd_No_clear_49 : decode nc_No_clear 49 = .ok (.iconst 0, 1) := by decide +kernel
theorem nd_No_clear_50 : decode nc_No_clear 50 = .ok (.putfield 34, 3) := by decide +kernel
theorem nd_No_clear_53 : decode nc_No_clear 53 = .ok (.aload_n 0, 1) := by decide +kernel
theorem nd_No_clear_54 : decode nc_No_clear 54 = .ok (.getfield 30, 3) := by decide +kernel
theorem nd_No_clear_57 : decode nc_No_clear 57 = .ok (.iconst 0, 1) := by decide +kernel
theorem nd_No_clear_58 : decode nc_No_clear 58 = .ok (.putfield 38, 3) := by decide +kernel
theorem nd_No_clear_61 : decode nc_No_clear 61 = .ok (.return_, 1) := by decide +kernel
theorem nd_No_buffersEndBy_0 : decode nc_No_buffersEndBy 0 = .ok (.iconst 0, 1) := by decide +kernel
theorem nd_No_buffersEndBy_1 : decode nc_No_buffersEndBy 1 = .ok (.istore_n 2, 1) := by decide +kernel
theorem nd_No_buffersEndBy_2 : decode nc_No_buffersEndBy 2 = .ok (.iload_n 2, 1) := by decide +kernel
theorem nd_No_buffersEndBy_3 : decode nc_No_buffersEndBy 3 = .ok (.iconst 3, 1) := by decide +kernel
theorem nd_No_buffersEndBy_4 : decode nc_No_buffersEndBy 4 = .ok (.if_icmp .ge 36, 3) := by decide +kernel
theorem nd_No_buffersEndBy_7 : decode nc_No_buffersEndBy 7 = .ok (.aload_n 0, 1) := by decide +kernel
theorem nd_No_buffersEndBy_8 : decode nc_No_buffersEndBy 8 = .ok (.getfield 24, 3) := by decide +kernel
theorem nd_No_buffersEndBy_11 : decode nc_No_buffersEndBy 11 = .ok (.iload_n 2, 1) := by decide +kernel
theorem nd_No_buffersEndBy_12 : decode nc_No_buffersEndBy 12 = .ok (.iaload, 1) := by decide +kernel
theorem nd_No_buffersEndBy_13 : decode nc_No_buffersEndBy 13 = .ok (.istore_n 3, 1) := by decide +kernel
theorem nd_No_buffersEndBy_14 : decode nc_No_buffersEndBy 14 = .ok (.iload_n 3, 1) := by decide +kernel
theorem nd_No_buffersEndBy_15 : decode nc_No_buffersEndBy 15 = .ok (.ifCond .le 19, 3) := by decide +kernel
theorem nd_No_buffersEndBy_18 : decode nc_No_buffersEndBy 18 = .ok (.aload_n 0, 1) := by decide +kernel
theorem nd_No_buffersEndBy_19 : decode nc_No_buffersEndBy 19 = .ok (.getfield 21, 3) := by decide +kernel
theorem nd_No_buffersEndBy_22 : decode nc_No_buffersEndBy 22 = .ok (.iload_n 2, 1) := by decide +kernel
theorem nd_No_buffersEndBy_23 : decode nc_No_buffersEndBy 23 = .ok (.iaload, 1) := by decide +kernel
theorem nd_No_buffersEndBy_24 : decode nc_No_buffersEndBy 24 = .ok (.iconst 4, 1) := by decide +kernel
theorem nd_No_buffersEndBy_25 : decode nc_No_buffersEndBy 25 = .ok (.iload_n 3, 1) := by decide +kernel
theorem nd_No_buffersEndBy_26 : decode nc_No_buffersEndBy 26 = .ok (.imul, 1) := by decide +kernel
theorem nd_No_buffersEndBy_27 : decode nc_No_buffersEndBy 27 = .ok (.iadd, 1) := by decide +kernel
theorem nd_No_buffersEndBy_28 : decode nc_No_buffersEndBy 28 = .ok (.iload_n 1, 1) := by decide +kernel
theorem nd_No_buffersEndBy_29 : decode nc_No_buffersEndBy 29 = .ok (.if_icmp .le 5, 3) := by decide +kernel
theorem nd_No_buffersEndBy_32 : decode nc_No_buffersEndBy 32 = .ok (.iconst 0, 1) := by decide +kernel
theorem nd_No_buffersEndBy_33 : decode nc_No_buffersEndBy 33 = .ok (.ireturn, 1) := by decide +kernel
theorem nd_No_buffersEndBy_34 : decode nc_No_buffersEndBy 34 = .ok (.iinc 2 1, 3) := by decide +kernel
theorem nd_No_buffersEndBy_37 : decode nc_No_buffersEndBy 37 = .ok (.goto (-35), 3) := by decide +kernel
theorem nd_No_buffersEndBy_40 : decode nc_No_buffersEndBy 40 = .ok (.iconst 1, 1) := by decide +kernel
theorem nd_No_buffersEndBy_41 : decode nc_No_buffersEndBy 41 = .ok (.ireturn, 1) := by decide +kernel
theorem nd_BP_init_0 : decode nc_BP_init 0 = .ok (.aload_n 0, 1) := by decide +kernel
theorem nd_BP_init_1 : decode nc_BP_init 1 = .ok (.invokespecial 3, 3) := by decide +kernel
theorem nd_BP_init_4 : decode nc_BP_init 4 = .ok (.aload_n 0, 1) := by decide +kernel
theorem nd_BP_init_5 : decode nc_BP_init 5 = .ok (.aload_n 1, 1) := by decide +kernel
theorem nd_BP_init_6 : decode nc_BP_init 6 = .ok (.putfield 9, 3) := by decide +kernel
theorem nd_BP_init_9 : decode nc_BP_init 9 = .ok (.aload_n 0, 1) := by decide +kernel
theorem nd_BP_init_10 : decode nc_BP_init 10 = .ok (.new 15, 3) := by decide +kernel
theorem nd_BP_init_13 : decode nc_BP_init 13 = .ok (.dup, 1) := by decide +kernel
theorem nd_BP_init_14 : decode nc_BP_init 14 = .ok (.invokespecial 17, 3) := by decide +kernel
theorem nd_BP_init_17 : decode nc_BP_init 17 = .ok (.putfield 18, 3) := by decide +kernel
theorem nd_BP_init_20 : decode nc_BP_init 20 = .ok (.aload_n 0, 1) := by decide +kernel
theorem nd_BP_init_21 : decode nc_BP_init 21 = .ok (.bipush 8, 2) := by decide +kernel
theorem nd_BP_init_23 : decode nc_BP_init 23 = .ok (.newarray .int, 2) := by decide +kernel
theorem nd_BP_init_25 : decode nc_BP_init 25 = .ok (.putfield 22, 3) := by decide +kernel
theorem nd_BP_init_28 : decode nc_BP_init 28 = .ok (.aload_n 0, 1) := by decide +kernel
theorem nd_BP_init_29 : decode nc_BP_init 29 = .ok (.iconst 2, 1) := by decide +kernel
theorem nd_BP_init_30 : decode nc_BP_init 30 = .ok (.putfield 26, 3) := by decide +kernel
theorem nd_BP_init_33 : decode nc_BP_init 33 = .ok (.return_, 1) := by decide +kernel
theorem nd_BP_begin_0 : decode nc_BP_begin 0 = .ok (.aload_n 0, 1) := by decide +kernel
theorem nd_BP_begin_1 : decode nc_BP_begin 1 = .ok (.getfield 9, 3) := by decide +kernel
theorem nd_BP_begin_4 : decode nc_BP_begin 4 = .ok (.aload_n 0, 1) := by decide +kernel
theorem nd_BP_begin_5 : decode nc_BP_begin 5 = .ok (.getfield 30, 3) := by decide +kernel
theorem nd_BP_begin_8 : decode nc_BP_begin 8 = .ok (.aload_n 0, 1) := by decide +kernel
theorem nd_BP_begin_9 : decode nc_BP_begin 9 = .ok (.getfield 33, 3) := by decide +kernel
theorem nd_BP_begin_12 : decode nc_BP_begin 12 = .ok (.invokevirtual 36, 3) := by decide +kernel
theorem nd_BP_begin_15 : decode nc_BP_begin 15 = .ok (.iconst 0, 1) := by decide +kernel
theorem nd_BP_begin_16 : decode nc_BP_begin 16 = .ok (.istore_n 1, 1) := by decide +kernel
theorem nd_BP_begin_17 : decode nc_BP_begin 17 = .ok (.iload_n 1, 1) := by decide +kernel
theorem nd_BP_begin_18 : decode nc_BP_begin 18 = .ok (.aload_n 0, 1) := by decide +kernel
theorem nd_BP_begin_19 : decode nc_BP_begin 19 = .ok (.getfield 22, 3) := by decide +kernel
theorem nd_BP_begin_22 : decode nc_BP_begin 22 = .ok (.arraylength, 1) := by decide +kernel
theorem nd_BP_begin_23 : decode nc_BP_begin 23 = .ok (.if_icmp .ge 16, 3) := by decide +kernel
theorem nd_BP_begin_26 : decode nc_BP_begin 26 = .ok (.aload_n 0, 1) := by decide +kernel
theorem nd_BP_begin_27 : decode nc_BP_begin 27 = .ok (.getfield 22, 3) := by decide +kernel
theorem nd_BP_begin_30 : decode nc_BP_begin 30 = .ok (.iload_n 1, 1) := by decide +kernel
theorem nd_BP_begin_31 : decode nc_BP_begin 31 = .ok (.iconst 0, 1) := by decide +kernel
theorem nd_BP_begin_32 : decode nc_BP_begin 32 = .ok (.iastore, 1) := by decide +kernel
theorem nd_BP_begin_33 : decode nc_BP_begin 33 = .ok (.iinc 1 1, 3) := by decide +kernel
theorem nd_BP_begin_36 : decode nc_BP_begin 36 = .ok (.goto (-19), 3) := by decide +kernel
theorem nd_BP_begin_39 : decode nc_BP_begin 39 = .ok (.aload_n 0, 1) := by decide +kernel
theorem nd_BP_begin_40 : decode nc_BP_begin 40 = .ok (.aload_n 0, 1) := by decide +kernel
theorem nd_BP_begin_41 : decode nc_BP_begin 41 = .ok (.getfield 30, 3) := by decide +kernel
theorem nd_BP_begin_44 : decode nc_BP_begin 44 = .ok (.iconst 4, 1) := by decide +kernel
theorem nd_BP_begin_45 : decode nc_BP_begin 45 = .ok (.aload_n 0, 1) := by decide +kernel
theorem nd_BP_begin_46 : decode nc_BP_begin 46 = .ok (.getfield 42, 3) := by decide +kernel
theorem nd_BP_begin_49 : decode nc_BP_begin 49 = .ok (.imul, 1) := by decide +kernel
theorem nd_BP_begin_50 : decode nc_BP_begin 50 = .ok (.iadd, 1) := by decide +kernel
theorem nd_BP_begin_51 : decode nc_BP_begin 51 = .ok (.putfield 45, 3) := by decide +kernel
theorem nd_BP_begin_54 : decode nc_BP_begin 54 = .ok (.aload_n 0, 1) := by decide +kernel
theorem nd_BP_begin_55 : decode nc_BP_begin 55 = .ok (.iconst 0, 1) := by decide +kernel
theorem nd_BP_begin_56 : decode nc_BP_begin 56 = .ok (.putfield 48, 3) := by decide +kernel
theorem nd_BP_begin_59 : decode nc_BP_begin 59 = .ok (.aload_n 0, 1) := by decide +kernel
theorem nd_BP_begin_60 : decode nc_BP_begin 60 = .ok (.aload_n 0, 1) := by decide +kernel
theorem nd_BP_begin_61 : decode nc_BP_begin 61 = .ok (.getfield 51, 3) := by decide +kernel
theorem nd_BP_begin_64 : decode nc_BP_begin 64 = .ok (.putfield 54, 3) := by decide +kernel
theorem nd_BP_begin_67 : decode nc_BP_begin 67 = .ok (.aload_n 0, 1) := by decide +kernel
theorem nd_BP_begin_68 : decode nc_BP_begin 68 = .ok (.iconst 0, 1) := by decide +kernel
theorem nd_BP_begin_69 : decode nc_BP_begin 69 = .ok (.putfield 57, 3) := by decide +kernel
theorem nd_BP_begin_72 : decode nc_BP_begin 72 = .ok (.aload_n 0, 1) := by decide +kernel
theorem nd_BP_begin_73 : decode nc_BP_begin 73 = .ok (.iconst 0, 1) := by decide +kernel
theorem nd_BP_begin_74 : decode nc_BP_begin 74 = .ok (.putfield 60, 3) := by decide +kernel
theorem nd_BP_begin_77 : decode nc_BP_begin 77 = .ok (.aload_n 0, 1) := by decide +kernel
theorem nd_BP_begin_78 : decode nc_BP_begin 78 = .ok (.invokevirtual 64, 3) := by decide +kernel
theorem nd_BP_begin_81 : decode nc_BP_begin 81 = .ok (.aload_n 0, 1) := by decide +kernel
theorem nd_BP_begin_82 : decode nc_BP_begin 82 = .ok (.iconst 0, 1) := by decide +kernel
theorem nd_BP_begin_83 : decode nc_BP_begin 83 = .ok (.putfield 26, 3) := by decide +kernel
theorem nd_BP_begin_86 : decode nc_BP_begin 86 = .ok (.return_, 1) := by decide +kernel
theorem nd_BP_halt_0 : decode nc_BP_halt 0 = .ok (.aload_n 0, 1) := by decide +kernel
theorem nd_BP_halt_1 : decode nc_BP_halt 1 = .ok (.invokevirtual 64, 3) := by decide +kernel
theorem nd_BP_halt_4 : decode nc_BP_halt 4 = .ok (.aload_n 0, 1) := by decide +kernel
theorem nd_BP_halt_5 : decode nc_BP_halt 5 = .ok (.iconst 2, 1) := by decide +kernel
theorem nd_BP_halt_6 : decode nc_BP_halt 6 = .ok (.putfield 26, 3) := by decide +kernel
theorem nd_BP_halt_9 : decode nc_BP_halt 9 = .ok (.return_, 1) := by decide +kernel
theorem nd_BP_loseNotes_0 : decode nc_BP_loseNotes 0 = .ok (.aload_n 0, 1) := by decide +kernel
theorem nd_BP_loseNotes_1 : decode nc_BP_loseNotes 1 = .ok (.getfield 18, 3) := by decide +kernel
theorem nd_BP_loseNotes_4 : decode nc_BP_loseNotes 4 = .ok (.invokevirtual 67, 3) := by decide +kernel
theorem nd_BP_loseNotes_7 : decode nc_BP_loseNotes 7 = .ok (.aload_n 0, 1) := by decide +kernel
theorem nd_BP_loseNotes_8 : decode nc_BP_loseNotes 8 = .ok (.aload_n 0, 1) := by decide +kernel
theorem nd_BP_loseNotes_9 : decode nc_BP_loseNotes 9 = .ok (.getfield 33, 3) := by decide +kernel
theorem nd_BP_loseNotes_12 : decode nc_BP_loseNotes 12 = .ok (.putfield 70, 3) := by decide +kernel
theorem nd_BP_loseNotes_15 : decode nc_BP_loseNotes 15 = .ok (.return_, 1) := by decide +kernel
theorem nd_BP_forgetFaults_0 : decode nc_BP_forgetFaults 0 = .ok (.aload_n 0, 1) := by decide +kernel
theorem nd_BP_forgetFaults_1 : decode nc_BP_forgetFaults 1 = .ok (.iconst 0, 1) := by decide +kernel
theorem nd_BP_forgetFaults_2 : decode nc_BP_forgetFaults 2 = .ok (.putfield 73, 3) := by decide +kernel
theorem nd_BP_forgetFaults_5 : decode nc_BP_forgetFaults 5 = .ok (.aload_n 0, 1) := by decide +kernel
theorem nd_BP_forgetFaults_6 : decode nc_BP_forgetFaults 6 = .ok (.iconst 0, 1) := by decide +kernel
theorem nd_BP_forgetFaults_7 : decode nc_BP_forgetFaults 7 = .ok (.putfield 76, 3) := by decide +kernel
theorem nd_BP_forgetFaults_10 : decode nc_BP_forgetFaults 10 = .ok (.aload_n 0, 1) := by decide +kernel
theorem nd_BP_forgetFaults_11 : decode nc_BP_forgetFaults 11 = .ok (.iconst 0, 1) := by decide +kernel
theorem nd_BP_forgetFaults_12 : decode nc_BP_forgetFaults 12 = .ok (.putfield 79, 3) := by decide +kernel
theorem nd_BP_forgetFaults_15 : decode nc_BP_forgetFaults 15 = .ok (.return_, 1) := by decide +kernel
theorem nd_BP_fail_0 : decode nc_BP_fail 0 = .ok (.aload_n 0, 1) := by decide +kernel
theorem nd_BP_fail_1 : decode nc_BP_fail 1 = .ok (.iload_n 1, 1) := by decide +kernel
theorem nd_BP_fail_2 : decode nc_BP_fail 2 = .ok (.putfield 73, 3) := by decide +kernel
theorem nd_BP_fail_5 : decode nc_BP_fail 5 = .ok (.aload_n 0, 1) := by decide +kernel
theorem nd_BP_fail_6 : decode nc_BP_fail 6 = .ok (.dup, 1) := by decide +kernel
theorem nd_BP_fail_7 : decode nc_BP_fail 7 = .ok (.getfield 76, 3) := by decide +kernel
theorem nd_BP_fail_10 : decode nc_BP_fail 10 = .ok (.iconst 1, 1) := by decide +kernel
theorem nd_BP_fail_11 : decode nc_BP_fail 11 = .ok (.iadd, 1) := by decide +kernel
theorem nd_BP_fail_12 : decode nc_BP_fail 12 = .ok (.putfield 76, 3) := by decide +kernel
theorem nd_BP_fail_15 : decode nc_BP_fail 15 = .ok (.aload_n 0, 1) := by decide +kernel
theorem nd_BP_fail_16 : decode nc_BP_fail 16 = .ok (.getfield 79, 3) := by decide +kernel
theorem nd_BP_fail_19 : decode nc_BP_fail 19 = .ok (.aload_n 0, 1) := by decide +kernel
theorem nd_BP_fail_20 : decode nc_BP_fail 20 = .ok (.getfield 82, 3) := by decide +kernel
theorem nd_BP_fail_23 : decode nc_BP_fail 23 = .ok (.if_icmp .ge 20, 3) := by decide +kernel
theorem nd_BP_fail_26 : decode nc_BP_fail 26 = .ok (.aload_n 0, 1) := by decide +kernel
theorem nd_BP_fail_27 : decode nc_BP_fail 27 = .ok (.dup, 1) := by decide +kernel
theorem nd_BP_fail_28 : decode nc_BP_fail 28 = .ok (.getfield 79, 3) := by decide +kernel
theorem nd_BP_fail_31 : decode nc_BP_fail 31 = .ok (.iconst 1, 1) := by decide +kernel
theorem nd_BP_fail_32 : decode nc_BP_fail 32 = .ok (.iadd, 1) := by decide +kernel
theorem nd_BP_fail_33 : decode nc_BP_fail 33 = .ok (.putfield 79, 3) := by decide +kernel
theorem nd_BP_fail_36 : decode nc_BP_fail 36 = .ok (.aload_n 0, 1) := by decide +kernel
theorem nd_BP_fail_37 : decode nc_BP_fail 37 = .ok (.invokevirtual 85, 3) := by decide +kernel
theorem nd_BP_fail_40 : decode nc_BP_fail 40 = .ok (.goto 7, 3) := by decide +kernel
theorem nd_BP_fail_43 : decode nc_BP_fail 43 = .ok (.aload_n 0, 1) := by decide +kernel
theorem nd_BP_fail_44 : decode nc_BP_fail 44 = .ok (.invokevirtual 88, 3) := by decide +kernel
theorem nd_BP_fail_47 : decode nc_BP_fail 47 = .ok (.return_, 1) := by decide +kernel
theorem nd_BP_openWordsBefore_0 : decode nc_BP_openWordsBefore 0 = .ok (.aload_n 0, 1) := by decide +kernel
theorem nd_BP_openWordsBefore_1 : decode nc_BP_openWordsBefore 1 = .ok (.getfield 33, 3) := by decide +kernel
theorem nd_BP_openWordsBefore_4 : decode nc_BP_openWordsBefore 4 = .ok (.iload_n 1, 1) := by decide +kernel
theorem nd_BP_openWordsBefore_5 : decode nc_BP_openWordsBefore 5 = .ok (.isub, 1) := by decide +kernel
theorem nd_BP_openWordsBefore_6 : decode nc_BP_openWordsBefore 6 = .ok (.aload_n 0, 1) := by decide +kernel
theorem nd_BP_openWordsBefore_7 : decode nc_BP_openWordsBefore 7 = .ok (.getfield 33, 3) := by decide +kernel
theorem nd_BP_openWordsBefore_10 : decode nc_BP_openWordsBefore 10 = .ok (.iconst 3, 1) := by decide +kernel
theorem nd_BP_openWordsBefore_11 : decode nc_BP_openWordsBefore 11 = .ok (.ishr, 1) := by decide +kernel
theorem nd_BP_openWordsBefore_12 : decode nc_BP_openWordsBefore 12 = .ok (.ineg, 1) := by decide +kernel
theorem nd_BP_openWordsBefore_13 : decode nc_BP_openWordsBefore 13 = .ok (.iand, 1) := by decide +kernel
theorem nd_BP_openWordsBefore_14 : decode nc_BP_openWordsBefore 14 = .ok (.ireturn, 1) := by decide +kernel
theorem nd_BP_areOpen_0 : decode nc_BP_areOpen 0 = .ok (.iload_n 1, 1) := by decide +kernel
theorem nd_BP_areOpen_1 : decode nc_BP_areOpen 1 = .ok (.aload_n 0, 1) := by decide +kernel
theorem nd_BP_areOpen_2 : decode nc_BP_areOpen 2 = .ok (.getfield 30, 3) := by decide +kernel
theorem nd_BP_areOpen_5 : decode nc_BP_areOpen 5 = .ok (.isub, 1) := by decide +kernel
theorem nd_BP_areOpen_6 : decode nc_BP_areOpen 6 = .ok (.istore_n 3, 1) := by decide +kernel
theorem nd_BP_areOpen_7 : decode nc_BP_areOpen 7 = .ok (.iconst 4, 1) := by decide +kernel
theorem nd_BP_areOpen_8 : decode nc_BP_areOpen 8 = .ok (.aload_n 0, 1) := by decide +kernel
theorem nd_BP_areOpen_9 : decode nc_BP_areOpen 9 = .ok (.getfield 70, 3) := by decide +kernel
theorem nd_BP_areOpen_12 : decode nc_BP_areOpen 12 = .ok (.imul, 1) := by decide +kernel
theorem nd_BP_areOpen_13 : decode nc_BP_areOpen 13 = .ok (.istore 4, 2) := by decide +kernel
theorem nd_BP_areOpen_15 : decode nc_BP_areOpen 15 = .ok (.iload_n 3, 1) := by decide +kernel
theorem nd_BP_areOpen_16 : decode nc_BP_areOpen 16 = .ok (.ifCond .lt 23, 3) := by decide +kernel
theorem nd_BP_areOpen_19 : decode nc_BP_areOpen 19 = .ok (.iload_n 3, 1) := by decide +kernel
theorem nd_BP_areOpen_20 : decode nc_BP_areOpen 20 = .ok (.iload 4, 2) := by decide +kernel
theorem nd_BP_areOpen_22 : decode nc_BP_areOpen 22 = .ok (.if_icmp .ge 17, 3) := by decide +kernel
theorem nd_BP_areOpen_25 : decode nc_BP_areOpen 25 = .ok (.iload_n 2, 1) := by decide +kernel
theorem nd_BP_areOpen_26 : decode nc_BP_areOpen 26 = .ok (.iload 4, 2) := by decide +kernel
theorem nd_BP_areOpen_28 : decode nc_BP_areOpen 28 = .ok (.iload_n 3, 1) := by decide +kernel
theorem nd_BP_areOpen_29 : decode nc_BP_areOpen 29 = .ok (.isub, 1) := by decide +kernel
theorem nd_BP_areOpen_30 : decode nc_BP_areOpen 30 = .ok (.iconst 2, 1) := by decide +kernel
theorem nd_BP_areOpen_31 : decode nc_BP_areOpen 31 = .ok (.ishr, 1) := by decide +kernel
theorem nd_BP_areOpen_32 : decode nc_BP_areOpen 32 = .ok (.if_icmp .gt 7, 3) := by decide +kernel
theorem nd_BP_areOpen_35 : decode nc_BP_areOpen 35 = .ok (.iconst 1, 1) := by decide +kernel
theorem nd_BP_areOpen_36 : decode nc_BP_areOpen 36 = .ok (.goto 4, 3) := by decide +kernel
theorem nd_BP_areOpen_39 : decode nc_BP_areOpen 39 = .ok (.iconst 0, 1) := by decide +kernel
theorem nd_BP_areOpen_40 : decode nc_BP_areOpen 40 = .ok (.ireturn, 1) := by decide +kernel
theorem nd_BP_isInCode_0 : decode nc_BP_isInCode 0 = .ok (.iload_n 1, 1) := by decide +kernel
theorem nd_BP_isInCode_1 : decode nc_BP_isInCode 1 = .ok (.aload_n 0, 1) := by decide +kernel
theorem nd_BP_isInCode_2 : decode nc_BP_isInCode 2 = .ok (.getfield 91, 3) := by decide +kernel
theorem nd_BP_isInCode_5 : decode nc_BP_isInCode 5 = .ok (.if_icmp .lt 15, 3) := by decide +kernel
theorem nd_BP_isInCode_8 : decode nc_BP_isInCode 8 = .ok (.iload_n 1, 1) := by decide +kernel
theorem nd_BP_isInCode_9 : decode nc_BP_isInCode 9 = .ok (.aload_n 0, 1) := by decide +kernel
theorem nd_BP_isInCode_10 : decode nc_BP_isInCode 10 = .ok (.getfield 94, 3) := by decide +kernel
theorem nd_BP_isInCode_13 : decode nc_BP_isInCode 13 = .ok (.if_icmp .ge 7, 3) := by decide +kernel
theorem nd_BP_isInCode_16 : decode nc_BP_isInCode 16 = .ok (.iconst 1, 1) := by decide +kernel
theorem nd_BP_isInCode_17 : decode nc_BP_isInCode 17 = .ok (.goto 4, 3) := by decide +kernel
theorem nd_BP_isInCode_20 : decode nc_BP_isInCode 20 = .ok (.iconst 0, 1) := by decide +kernel
theorem nd_BP_isInCode_21 : decode nc_BP_isInCode 21 = .ok (.ireturn, 1) := by decide +kernel
theorem nd_BP_mayLoad_0 : decode nc_BP_mayLoad 0 = .ok (.aload_n 0, 1) := by decide +kernel
theorem nd_BP_mayLoad_1 : decode nc_BP_mayLoad 1 = .ok (.iload_n 1, 1) := by decide +kernel
theorem nd_BP_mayLoad_2 : decode nc_BP_mayLoad 2 = .ok (.invokevirtual 97, 3) := by decide +kernel
theorem nd_BP_mayLoad_5 : decode nc_BP_mayLoad 5 = .ok (.ifCond .ne 12, 3) := by decide +kernel
theorem nd_BP_mayLoad_8 : decode nc_BP_mayLoad 8 = .ok (.aload_n 0, 1) := by decide +kernel
theorem nd_BP_mayLoad_9 : decode nc_BP_mayLoad 9 = .ok (.iload_n 1, 1) := by decide +kernel
theorem nd_BP_mayLoad_10 : decode nc_BP_mayLoad 10 = .ok (.iconst 1, 1) := by decide +kernel
theorem nd_BP_mayLoad_11 : decode nc_BP_mayLoad 11 = .ok (.invokevirtual 101, 3) := by decide +kernel
theorem nd_BP_mayLoad_14 : decode nc_BP_mayLoad 14 = .ok (.ifCond .eq 7, 3) := by decide +kernel
theorem nd_BP_mayLoad_17 : decode nc_BP_mayLoad 17 = .ok (.iconst 1, 1) := by decide +kernel
theorem nd_BP_mayLoad_18 : decode nc_BP_mayLoad 18 = .ok (.goto 4, 3) := by decide +kernel
theorem nd_BP_mayLoad_21 : decode nc_BP_mayLoad 21 = .ok (.iconst 0, 1) := by decide +kernel
theorem nd_BP_mayLoad_22 : decode nc_BP_mayLoad 22 = .ok (.ireturn, 1) := by decide +kernel
theorem nd_BP_readWord_0 : decode nc_BP_readWord 0 = .ok (.aload_n 0, 1) := by decide +kernel
theorem nd_BP_readWord_1 : decode nc_BP_readWord 1 = .ok (.iload_n 1, 1) := by decide +kernel
theorem nd_BP_readWord_2 : decode nc_BP_readWord 2 = .ok (.invokevirtual 97, 3) := by decide +kernel
theorem nd_BP_readWord_5 : decode nc_BP_readWord 5 = .ok (.ifCond .eq 14, 3) := by decide +kernel
theorem nd_BP_readWord_8 : decode nc_BP_readWord 8 = .ok (.aload_n 0, 1) := by decide +kernel
theorem nd_BP_readWord_9 : decode nc_BP_readWord 9 = .ok (.getfield 9, 3) := by decide +kernel
theorem nd_BP_readWord_12 : decode nc_BP_readWord 12 = .ok (.iload_n 1, 1) := by decide +kernel
theorem nd_BP_readWord_13 : decode nc_BP_readWord 13 = .ok (.invokevirtual 105, 3) := by decide +kernel
theorem nd_BP_readWord_16 : decode nc_BP_readWord 16 = .ok (.goto 11, 3) := by decide +kernel
theorem nd_BP_readWord_19 : decode nc_BP_readWord 19 = .ok (.aload_n 0, 1) := by decide +kernel
theorem nd_BP_readWord_20 : decode nc_BP_readWord 20 = .ok (.getfield 9, 3) := by decide +kernel
theorem nd_BP_readWord_23 : decode nc_BP_readWord 23 = .ok (.iload_n 1, 1) := by decide +kernel
theorem nd_BP_readWord_24 : decode nc_BP_readWord 24 = .ok (.invokevirtual 109, 3) := by decide +kernel
theorem nd_BP_readWord_27 : decode nc_BP_readWord 27 = .ok (.ireturn, 1) := by decide +kernel
theorem nd_BP_frameWord_0 : decode nc_BP_frameWord 0 = .ok (.aload_n 0, 1) := by decide +kernel
theorem nd_BP_frameWord_1 : decode nc_BP_frameWord 1 = .ok (.getfield 9, 3) := by decide +kernel
theorem nd_BP_frameWord_4 : decode nc_BP_frameWord 4 = .ok (.aload_n 0, 1) := by decide +kernel
theorem nd_BP_frameWord_5 : decode nc_BP_frameWord 5 = .ok (.getfield 45, 3) := by decide +kernel
theorem nd_BP_frameWord_8 : decode nc_BP_frameWord 8 = .ok (.iconst 4, 1) := by decide +kernel
theorem nd_BP_frameWord_9 : decode nc_BP_frameWord 9 = .ok (.iload_n 1, 1) := by decide +kernel
