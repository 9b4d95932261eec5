theorem nd_Ke_putOut_8 : decode nc_Ke_putOut 8 = .ok (.iconst 1, 1) := by decide +kernel
theorem nd_Ke_putOut_9 : decode nc_Ke_putOut 9 = .ok (.iaload, 1) := by decide +kernel
theorem nd_Ke_putOut_10 : decode nc_Ke_putOut 10 = .ok (.invokestatic 184, 3) := by decide +kernel
theorem nd_Ke_putOut_13 : decode nc_Ke_putOut 13 = .ok (.istore_n 3, 1) := by decide +kernel
theorem nd_Ke_putOut_14 : decode nc_Ke_putOut 14 = .ok (.aload_n 1, 1) := by decide +kernel
theorem nd_Ke_putOut_15 : decode nc_Ke_putOut 15 = .ok (.getfield 45, 3) := by decide +kernel
theorem nd_Ke_putOut_18 : decode nc_Ke_putOut 18 = .ok (.getfield 161, 3) := by decide +kernel
theorem nd_Ke_putOut_21 : decode nc_Ke_putOut 21 = .ok (.iconst 1, 1) := by decide +kernel
theorem nd_Ke_putOut_22 : decode nc_Ke_putOut 22 = .ok (.iaload, 1) := by decide +kernel
theorem nd_Ke_putOut_23 : decode nc_Ke_putOut 23 = .ok (.istore 4, 2) := by decide +kernel
theorem nd_Ke_putOut_25 : decode nc_Ke_putOut 25 = .ok (.iconst 0, 1) := by decide +kernel
theorem nd_Ke_putOut_26 : decode nc_Ke_putOut 26 = .ok (.istore 5, 2) := by decide +kernel
theorem nd_Ke_putOut_28 : decode nc_Ke_putOut 28 = .ok (.iload 5, 2) := by decide +kernel
theorem nd_Ke_putOut_30 : decode nc_Ke_putOut 30 = .ok (.iload_n 3, 1) := by decide +kernel
theorem nd_Ke_putOut_31 : decode nc_Ke_putOut 31 = .ok (.if_icmp .ge 30, 3) := by decide +kernel
theorem nd_Ke_putOut_34 : decode nc_Ke_putOut 34 = .ok (.aload_n 0, 1) := by decide +kernel
theorem nd_Ke_putOut_35 : decode nc_Ke_putOut 35 = .ok (.getfield 19, 3) := by decide +kernel
theorem nd_Ke_putOut_38 : decode nc_Ke_putOut 38 = .ok (.aload_n 0, 1) := by decide +kernel
theorem nd_Ke_putOut_39 : decode nc_Ke_putOut 39 = .ok (.getfield 9, 3) := by decide +kernel
theorem nd_Ke_putOut_42 : decode nc_Ke_putOut 42 = .ok (.iload 4, 2) := by decide +kernel
theorem nd_Ke_putOut_44 : decode nc_Ke_putOut 44 = .ok (.iconst 4, 1) := by decide +kernel
theorem nd_Ke_putOut_45 : decode nc_Ke_putOut 45 = .ok (.iload 5, 2) := by decide +kernel
theorem nd_Ke_putOut_47 : decode nc_Ke_putOut 47 = .ok (.imul, 1) := by decide +kernel
theorem nd_Ke_putOut_48 : decode nc_Ke_putOut 48 = .ok (.iadd, 1) := by decide +kernel
theorem nd_Ke_putOut_49 : decode nc_Ke_putOut 49 = .ok (.invokevirtual 57, 3) := by decide +kernel
theorem nd_Ke_putOut_52 : decode nc_Ke_putOut 52 = .ok (.invokevirtual 189, 3) := by decide +kernel
theorem nd_Ke_putOut_55 : decode nc_Ke_putOut 55 = .ok (.iinc 5 1, 3) := by decide +kernel
theorem nd_Ke_putOut_58 : decode nc_Ke_putOut 58 = .ok (.goto (-30), 3) := by decide +kernel
theorem nd_Ke_putOut_61 : decode nc_Ke_putOut 61 = .ok (.aload_n 1, 1) := by decide +kernel
theorem nd_Ke_putOut_62 : decode nc_Ke_putOut 62 = .ok (.getfield 45, 3) := by decide +kernel
theorem nd_Ke_putOut_65 : decode nc_Ke_putOut 65 = .ok (.getfield 51, 3) := by decide +kernel
theorem nd_Ke_putOut_68 : decode nc_Ke_putOut 68 = .ok (.iconst 1, 1) := by decide +kernel
theorem nd_Ke_putOut_69 : decode nc_Ke_putOut 69 = .ok (.iaload, 1) := by decide +kernel
theorem nd_Ke_putOut_70 : decode nc_Ke_putOut 70 = .ok (.iconst 4, 1) := by decide +kernel
theorem nd_Ke_putOut_71 : decode nc_Ke_putOut 71 = .ok (.iadd, 1) := by decide +kernel
theorem nd_Ke_putOut_72 : decode nc_Ke_putOut 72 = .ok (.istore 5, 2) := by decide +kernel
theorem nd_Ke_putOut_74 : decode nc_Ke_putOut 74 = .ok (.aload_n 0, 1) := by decide +kernel
theorem nd_Ke_putOut_75 : decode nc_Ke_putOut 75 = .ok (.getfield 9, 3) := by decide +kernel
theorem nd_Ke_putOut_78 : decode nc_Ke_putOut 78 = .ok (.iload 5, 2) := by decide +kernel
theorem nd_Ke_putOut_80 : decode nc_Ke_putOut 80 = .ok (.aload_n 0, 1) := by decide +kernel
theorem nd_Ke_putOut_81 : decode nc_Ke_putOut 81 = .ok (.getfield 9, 3) := by decide +kernel
theorem nd_Ke_putOut_84 : decode nc_Ke_putOut 84 = .ok (.iload 5, 2) := by decide +kernel
theorem nd_Ke_putOut_86 : decode nc_Ke_putOut 86 = .ok (.invokevirtual 57, 3) := by decide +kernel
theorem nd_Ke_putOut_89 : decode nc_Ke_putOut 89 = .ok (.iload_n 3, 1) := by decide +kernel
theorem nd_Ke_putOut_90 : decode nc_Ke_putOut 90 = .ok (.iadd, 1) := by decide +kernel
theorem nd_Ke_putOut_91 : decode nc_Ke_putOut 91 = .ok (.invokevirtual 63, 3) := by decide +kernel
theorem nd_Ke_putOut_94 : decode nc_Ke_putOut 94 = .ok (.aload_n 0, 1) := by decide +kernel
theorem nd_Ke_putOut_95 : decode nc_Ke_putOut 95 = .ok (.aload_n 1, 1) := by decide +kernel
theorem nd_Ke_putOut_96 : decode nc_Ke_putOut 96 = .ok (.iconst 1, 1) := by decide +kernel
theorem nd_Ke_putOut_97 : decode nc_Ke_putOut 97 = .ok (.iload_n 3, 1) := by decide +kernel
theorem nd_Ke_putOut_98 : decode nc_Ke_putOut 98 = .ok (.iconst 0, 1) := by decide +kernel
theorem nd_Ke_putOut_99 : decode nc_Ke_putOut 99 = .ok (.invokevirtual 67, 3) := by decide +kernel
theorem nd_Ke_putOut_102 : decode nc_Ke_putOut 102 = .ok (.iconst 0, 1) := by decide +kernel
theorem nd_Ke_putOut_103 : decode nc_Ke_putOut 103 = .ok (.ireturn, 1) := by decide +kernel
theorem nd_Ke_commandSensor_0 : decode nc_Ke_commandSensor 0 = .ok (.iload_n 2, 1) := by decide +kernel
theorem nd_Ke_commandSensor_1 : decode nc_Ke_commandSensor 1 = .ok (.iconst 1, 1) := by decide +kernel
theorem nd_Ke_commandSensor_2 : decode nc_Ke_commandSensor 2 = .ok (.if_icmp .eq 5, 3) := by decide +kernel
theorem nd_Ke_commandSensor_5 : decode nc_Ke_commandSensor 5 = .ok (.iconst (-1), 1) := by decide +kernel
theorem nd_Ke_commandSensor_6 : decode nc_Ke_commandSensor 6 = .ok (.ireturn, 1) := by decide +kernel
theorem nd_Ke_commandSensor_7 : decode nc_Ke_commandSensor 7 = .ok (.aload_n 0, 1) := by decide +kernel
theorem nd_Ke_commandSensor_8 : decode nc_Ke_commandSensor 8 = .ok (.aload_n 1, 1) := by decide +kernel
theorem nd_Ke_commandSensor_9 : decode nc_Ke_commandSensor 9 = .ok (.iconst 2, 1) := by decide +kernel
theorem nd_Ke_commandSensor_10 : decode nc_Ke_commandSensor 10 = .ok (.invokevirtual 27, 3) := by decide +kernel
theorem nd_Ke_commandSensor_13 : decode nc_Ke_commandSensor 13 = .ok (.ifCond .eq 6, 3) := by decide +kernel
theorem nd_Ke_commandSensor_16 : decode nc_Ke_commandSensor 16 = .ok (.bipush (-5), 2) := by decide +kernel
theorem nd_Ke_commandSensor_18 : decode nc_Ke_commandSensor 18 = .ok (.ireturn, 1) := by decide +kernel
theorem nd_Ke_commandSensor_19 : decode nc_Ke_commandSensor 19 = .ok (.aload_n 0, 1) := by decide +kernel
theorem nd_Ke_commandSensor_20 : decode nc_Ke_commandSensor 20 = .ok (.getfield 9, 3) := by decide +kernel
theorem nd_Ke_commandSensor_23 : decode nc_Ke_commandSensor 23 = .ok (.aload_n 1, 1) := by decide +kernel
theorem nd_Ke_commandSensor_24 : decode nc_Ke_commandSensor 24 = .ok (.getfield 45, 3) := by decide +kernel
theorem nd_Ke_commandSensor_27 : decode nc_Ke_commandSensor 27 = .ok (.getfield 51, 3) := by decide +kernel
theorem nd_Ke_commandSensor_30 : decode nc_Ke_commandSensor 30 = .ok (.iconst 2, 1) := by decide +kernel
theorem nd_Ke_commandSensor_31 : decode nc_Ke_commandSensor 31 = .ok (.iaload, 1) := by decide +kernel
theorem nd_Ke_commandSensor_32 : decode nc_Ke_commandSensor 32 = .ok (.iconst 1, 1) := by decide +kernel
theorem nd_Ke_commandSensor_33 : decode nc_Ke_commandSensor 33 = .ok (.invokevirtual 63, 3) := by decide +kernel
theorem nd_Ke_commandSensor_36 : decode nc_Ke_commandSensor 36 = .ok (.iconst 0, 1) := by decide +kernel
theorem nd_Ke_commandSensor_37 : decode nc_Ke_commandSensor 37 = .ok (.ireturn, 1) := by decide +kernel
theorem nd_Ke_isPending_0 : decode nc_Ke_isPending 0 = .ok (.aload_n 1, 1) := by decide +kernel
theorem nd_Ke_isPending_1 : decode nc_Ke_isPending 1 = .ok (.getfield 45, 3) := by decide +kernel
theorem nd_Ke_isPending_4 : decode nc_Ke_isPending 4 = .ok (.iload_n 2, 1) := by decide +kernel
theorem nd_Ke_isPending_5 : decode nc_Ke_isPending 5 = .ok (.invokevirtual 98, 3) := by decide +kernel
theorem nd_Ke_isPending_8 : decode nc_Ke_isPending 8 = .ok (.ifCond .eq 27, 3) := by decide +kernel
theorem nd_Ke_isPending_11 : decode nc_Ke_isPending 11 = .ok (.aload_n 0, 1) := by decide +kernel
theorem nd_Ke_isPending_12 : decode nc_Ke_isPending 12 = .ok (.getfield 9, 3) := by decide +kernel
theorem nd_Ke_isPending_15 : decode nc_Ke_isPending 15 = .ok (.aload_n 1, 1) := by decide +kernel
theorem nd_Ke_isPending_16 : decode nc_Ke_isPending 16 = .ok (.getfield 45, 3) := by decide +kernel
theorem nd_Ke_isPending_19 : decode nc_Ke_isPending 19 = .ok (.getfield 51, 3) := by decide +kernel
theorem nd_Ke_isPending_22 : decode nc_Ke_isPending 22 = .ok (.iload_n 2, 1) := by decide +kernel
theorem nd_Ke_isPending_23 : decode nc_Ke_isPending 23 = .ok (.iaload, 1) := by decide +kernel
theorem nd_Ke_isPending_24 : decode nc_Ke_isPending 24 = .ok (.invokevirtual 57, 3) := by decide +kernel
theorem nd_Ke_isPending_27 : decode nc_Ke_isPending 27 = .ok (.iconst 1, 1) := by decide +kernel
theorem nd_Ke_isPending_28 : decode nc_Ke_isPending 28 = .ok (.if_icmp .ne 7, 3) := by decide +kernel
theorem nd_Ke_isPending_31 : decode nc_Ke_isPending 31 = .ok (.iconst 1, 1) := by decide +kernel
theorem nd_Ke_isPending_32 : decode nc_Ke_isPending 32 = .ok (.goto 4, 3) := by decide +kernel
theorem nd_Ke_isPending_35 : decode nc_Ke_isPending 35 = .ok (.iconst 0, 1) := by decide +kernel
theorem nd_Ke_isPending_36 : decode nc_Ke_isPending 36 = .ok (.ireturn, 1) := by decide +kernel
theorem nd_Ke_ringIfDue_0 : decode nc_Ke_ringIfDue 0 = .ok (.aload_n 1, 1) := by decide +kernel
theorem nd_Ke_ringIfDue_1 : decode nc_Ke_ringIfDue 1 = .ok (.getfield 45, 3) := by decide +kernel
theorem nd_Ke_ringIfDue_4 : decode nc_Ke_ringIfDue 4 = .ok (.getfield 51, 3) := by decide +kernel
theorem nd_Ke_ringIfDue_7 : decode nc_Ke_ringIfDue 7 = .ok (.iconst 0, 1) := by decide +kernel
theorem nd_Ke_ringIfDue_8 : decode nc_Ke_ringIfDue 8 = .ok (.iaload, 1) := by decide +kernel
theorem nd_Ke_ringIfDue_9 : decode nc_Ke_ringIfDue 9 = .ok (.istore_n 2, 1) := by decide +kernel
theorem nd_Ke_ringIfDue_10 : decode nc_Ke_ringIfDue 10 = .ok (.aload_n 0, 1) := by decide +kernel
theorem nd_Ke_ringIfDue_11 : decode nc_Ke_ringIfDue 11 = .ok (.getfield 9, 3) := by decide +kernel
theorem nd_Ke_ringIfDue_14 : decode nc_Ke_ringIfDue 14 = .ok (.iload_n 2, 1) := by decide +kernel
theorem nd_Ke_ringIfDue_15 : decode nc_Ke_ringIfDue 15 = .ok (.iconst 4, 1) := by decide +kernel
theorem nd_Ke_ringIfDue_16 : decode nc_Ke_ringIfDue 16 = .ok (.iadd, 1) := by decide +kernel
theorem nd_Ke_ringIfDue_17 : decode nc_Ke_ringIfDue 17 = .ok (.invokevirtual 57, 3) := by decide +kernel
theorem nd_Ke_ringIfDue_20 : decode nc_Ke_ringIfDue 20 = .ok (.istore_n 3, 1) := by decide +kernel
theorem nd_Ke_ringIfDue_21 : decode nc_Ke_ringIfDue 21 = .ok (.iload_n 3, 1) := by decide +kernel
theorem nd_Ke_ringIfDue_22 : decode nc_Ke_ringIfDue 22 = .ok (.aload_n 0, 1) := by decide +kernel
theorem nd_Ke_ringIfDue_23 : decode nc_Ke_ringIfDue 23 = .ok (.getfield 23, 3) := by decide +kernel
theorem nd_Ke_ringIfDue_26 : decode nc_Ke_ringIfDue 26 = .ok (.if_icmp .gt 23, 3) := by decide +kernel
theorem nd_Ke_ringIfDue_29 : decode nc_Ke_ringIfDue 29 = .ok (.aload_n 0, 1) := by decide +kernel
theorem nd_Ke_ringIfDue_30 : decode nc_Ke_ringIfDue 30 = .ok (.getfield 9, 3) := by decide +kernel
theorem nd_Ke_ringIfDue_33 : decode nc_Ke_ringIfDue 33 = .ok (.iload_n 2, 1) := by decide +kernel
theorem nd_Ke_ringIfDue_34 : decode nc_Ke_ringIfDue 34 = .ok (.iconst 0, 1) := by decide +kernel
theorem nd_Ke_ringIfDue_35 : decode nc_Ke_ringIfDue 35 = .ok (.invokevirtual 63, 3) := by decide +kernel
theorem nd_Ke_ringIfDue_38 : decode nc_Ke_ringIfDue 38 = .ok (.aload_n 0, 1) := by decide +kernel
theorem nd_Ke_ringIfDue_39 : decode nc_Ke_ringIfDue 39 = .ok (.aload_n 1, 1) := by decide +kernel
theorem nd_Ke_ringIfDue_40 : decode nc_Ke_ringIfDue 40 = .ok (.iconst 0, 1) := by decide +kernel
theorem nd_Ke_ringIfDue_41 : decode nc_Ke_ringIfDue 41 = .ok (.aload_n 0, 1) := by decide +kernel
theorem nd_Ke_ringIfDue_42 : decode nc_Ke_ringIfDue 42 = .ok (.getfield 23, 3) := by decide +kernel
theorem nd_Ke_ringIfDue_45 : decode nc_Ke_ringIfDue 45 = .ok (.iload_n 3, 1) := by decide +kernel
theorem nd_Ke_ringIfDue_46 : decode nc_Ke_ringIfDue 46 = .ok (.invokevirtual 67, 3) := by decide +kernel
theorem nd_Ke_ringIfDue_49 : decode nc_Ke_ringIfDue 49 = .ok (.return_, 1) := by decide +kernel
theorem nd_Ke_receive_0 : decode nc_Ke_receive 0 = .ok (.aload_n 1, 1) := by decide +kernel
theorem nd_Ke_receive_1 : decode nc_Ke_receive 1 = .ok (.getfield 45, 3) := by decide +kernel
theorem nd_Ke_receive_4 : decode nc_Ke_receive 4 = .ok (.getfield 164, 3) := by decide +kernel
theorem nd_Ke_receive_7 : decode nc_Ke_receive 7 = .ok (.iconst 1, 1) := by decide +kernel
theorem nd_Ke_receive_8 : decode nc_Ke_receive 8 = .ok (.iaload, 1) := by decide +kernel
theorem nd_Ke_receive_9 : decode nc_Ke_receive 9 = .ok (.ifCond .le 20, 3) := by decide +kernel
theorem nd_Ke_receive_12 : decode nc_Ke_receive 12 = .ok (.aload_n 0, 1) := by decide +kernel
theorem nd_Ke_receive_13 : decode nc_Ke_receive 13 = .ok (.getfield 9, 3) := by decide +kernel
theorem nd_Ke_receive_16 : decode nc_Ke_receive 16 = .ok (.aload_n 1, 1) := by decide +kernel
theorem nd_Ke_receive_17 : decode nc_Ke_receive 17 = .ok (.getfield 45, 3) := by decide +kernel
theorem nd_Ke_receive_20 : decode nc_Ke_receive 20 = .ok (.getfield 161, 3) := by decide +kernel
theorem nd_Ke_receive_23 : decode nc_Ke_receive 23 = .ok (.iconst 1, 1) := by decide +kernel
theorem nd_Ke_receive_24 : decode nc_Ke_receive 24 = .ok (.iaload, 1) := by decide +kernel
theorem nd_Ke_receive_25 : decode nc_Ke_receive 25 = .ok (.iload_n 2, 1) := by decide +kernel
theorem nd_Ke_receive_26 : decode nc_Ke_receive 26 = .ok (.invokevirtual 63, 3) := by decide +kernel
theorem nd_Ke_receive_29 : decode nc_Ke_receive 29 = .ok (.aload_n 0, 1) := by decide +kernel
theorem nd_Ke_receive_30 : decode nc_Ke_receive 30 = .ok (.getfield 9, 3) := by decide +kernel
theorem nd_Ke_receive_33 : decode nc_Ke_receive 33 = .ok (.aload_n 1, 1) := by decide +kernel
theorem nd_Ke_receive_34 : decode nc_Ke_receive 34 = .ok (.getfield 45, 3) := by decide +kernel
theorem nd_Ke_receive_37 : decode nc_Ke_receive 37 = .ok (.getfield 51, 3) := by decide +kernel
theorem nd_Ke_receive_40 : decode nc_Ke_receive 40 = .ok (.iconst 1, 1) := by decide +kernel
theorem nd_Ke_receive_41 : decode nc_Ke_receive 41 = .ok (.iaload, 1) := by decide +kernel
theorem nd_Ke_receive_42 : decode nc_Ke_receive 42 = .ok (.iconst 0, 1) := by decide +kernel
theorem nd_Ke_receive_43 : decode nc_Ke_receive 43 = .ok (.invokevirtual 63, 3) := by decide +kernel
theorem nd_Ke_receive_46 : decode nc_Ke_receive 46 = .ok (.aload_n 0, 1) := by decide +kernel
theorem nd_Ke_receive_47 : decode nc_Ke_receive 47 = .ok (.aload_n 1, 1) := by decide +kernel
theorem nd_Ke_receive_48 : decode nc_Ke_receive 48 = .ok (.iconst 1, 1) := by decide +kernel
theorem nd_Ke_receive_49 : decode nc_Ke_receive 49 = .ok (.iload_n 2, 1) := by decide +kernel
theorem nd_Ke_receive_50 : decode nc_Ke_receive 50 = .ok (.iconst 1, 1) := by decide +kernel
theorem nd_Ke_receive_51 : decode nc_Ke_receive 51 = .ok (.invokevirtual 67, 3) := by decide +kernel
theorem nd_Ke_receive_54 : decode nc_Ke_receive 54 = .ok (.return_, 1) := by decide +kernel
theorem nd_Ke_upcall_0 : decode nc_Ke_upcall 0 = .ok (.aload_n 1, 1) := by decide +kernel
theorem nd_Ke_upcall_1 : decode nc_Ke_upcall 1 = .ok (.getfield 45, 3) := by decide +kernel
theorem nd_Ke_upcall_4 : decode nc_Ke_upcall 4 = .ok (.astore 5, 2) := by decide +kernel
theorem nd_Ke_upcall_6 : decode nc_Ke_upcall 6 = .ok (.aload 5, 2) := by decide +kernel
theorem nd_Ke_upcall_8 : decode nc_Ke_upcall 8 = .ok (.getfield 147, 3) := by decide +kernel
theorem nd_Ke_upcall_11 : decode nc_Ke_upcall 11 = .ok (.iload_n 2, 1) := by decide +kernel
theorem nd_Ke_upcall_12 : decode nc_Ke_upcall 12 = .ok (.iaload, 1) := by decide +kernel
theorem nd_Ke_upcall_13 : decode nc_Ke_upcall 13 = .ok (.istore 6, 2) := by decide +kernel
theorem nd_Ke_upcall_15 : decode nc_Ke_upcall 15 = .ok (.iload 6, 2) := by decide +kernel
theorem nd_Ke_upcall_17 : decode nc_Ke_upcall 17 = .ok (.ifCond .ne 4, 3) := by decide +kernel
theorem nd_Ke_upcall_20 : decode nc_Ke_upcall 20 = .ok (.return_, 1) := by decide +kernel
theorem nd_Ke_upcall_21 : decode nc_Ke_upcall 21 = .ok (.aload_n 1, 1) := by decide +kernel
theorem nd_Ke_upcall_22 : decode nc_Ke_upcall 22 = .ok (.getfield 75, 3) := by decide +kernel
theorem nd_Ke_upcall_25 : decode nc_Ke_upcall 25 = .ok (.iconst 1, 1) := by decide +kernel
theorem nd_Ke_upcall_26 : decode nc_Ke_upcall 26 = .ok (.if_icmp .eq 16, 3) := by decide +kernel
theorem nd_Ke_upcall_29 : decode nc_Ke_upcall 29 = .ok (.aload 5, 2) := by decide +kernel
theorem nd_Ke_upcall_31 : decode nc_Ke_upcall 31 = .ok (.getfield 71, 3) := by decide +kernel
theorem nd_Ke_upcall_34 : decode nc_Ke_upcall 34 = .ok (.iload_n 2, 1) := by decide +kernel
theorem nd_Ke_upcall_35 : decode nc_Ke_upcall 35 = .ok (.iload_n 3, 1) := by decide +kernel
theorem nd_Ke_upcall_36 : decode nc_Ke_upcall 36 = .ok (.iload 4, 2) := by decide +kernel
theorem nd_Ke_upcall_38 : decode nc_Ke_upcall 38 = .ok (.invokevirtual 192, 3) := by decide +kernel
theorem nd_Ke_upcall_41 : decode nc_Ke_upcall 41 = .ok (.return_, 1) := by decide +kernel
theorem nd_Ke_upcall_42 : decode nc_Ke_upcall 42 = .ok (.aload_n 1, 1) := by decide +kernel
theorem nd_Ke_upcall_43 : decode nc_Ke_upcall 43 = .ok (.getfield 196, 3) := by decide +kernel
theorem nd_Ke_upcall_46 : decode nc_Ke_upcall 46 = .ok (.istore 7, 2) := by decide +kernel
theorem nd_Ke_upcall_48 : decode nc_Ke_upcall 48 = .ok (.iload 7, 2) := by decide +kernel
theorem nd_Ke_upcall_50 : decode nc_Ke_upcall 50 = .ok (.bipush 24, 2) := by decide +kernel
theorem nd_Ke_upcall_52 : decode nc_Ke_upcall 52 = .ok (.iadd, 1) := by decide +kernel
theorem nd_Ke_upcall_53 : decode nc_Ke_upcall 53 = .ok (.istore 8, 2) := by decide +kernel
theorem nd_Ke_upcall_55 : decode nc_Ke_upcall 55 = .ok (.aload_n 0, 1) := by decide +kernel
theorem nd_Ke_upcall_56 : decode nc_Ke_upcall 56 = .ok (.getfield 9, 3) := by decide +kernel
theorem nd_Ke_upcall_59 : decode nc_Ke_upcall 59 = .ok (.iload 7, 2) := by decide +kernel
theorem nd_Ke_upcall_61 : decode nc_Ke_upcall 61 = .ok (.iload_n 3, 1) := by decide +kernel
theorem nd_Ke_upcall_62 : decode nc_Ke_upcall 62 = .ok (.invokevirtual 63, 3) := by decide +kernel
theorem nd_Ke_upcall_65 : decode nc_Ke_upcall 65 = .ok (.aload_n 0, 1) := by decide +kernel
theorem nd_Ke_upcall_66 : decode nc_Ke_upcall 66 = .ok (.getfield 9, 3) := by decide +kernel
theorem nd_Ke_upcall_69 : decode nc_Ke_upcall 69 = .ok (.iload 7, 2) := by decide +kernel
theorem nd_Ke_upcall_71 : decode nc_Ke_upcall 71 = .ok (.iconst 4, 1) := by decide +kernel
theorem nd_Ke_upcall_72 : decode nc_Ke_upcall 72 = .ok (.iadd, 1) := by decide +kernel
theorem nd_Ke_upcall_73 : decode nc_Ke_upcall 73 = .ok (.iload 4, 2) := by decide +kernel
theorem nd_Ke_upcall_75 : decode nc_Ke_upcall 75 = .ok (.invokevirtual 63, 3) := by decide +kernel
theorem nd_Ke_upcall_78 : decode nc_Ke_upcall 78 = .ok (.aload_n 0, 1) := by decide +kernel
theorem nd_Ke_upcall_79 : decode nc_Ke_upcall 79 = .ok (.getfield 9, 3) := by decide +kernel
theorem nd_Ke_upcall_82 : decode nc_Ke_upcall 82 = .ok (.iload 7, 2) := by decide +kernel
theorem nd_Ke_upcall_84 : decode nc_Ke_upcall 84 = .ok (.bipush 8, 2) := by decide +kernel
theorem nd_Ke_upcall_86 : decode nc_Ke_upcall 86 = .ok (.iadd, 1) := by decide +kernel
theorem nd_Ke_upcall_87 : decode nc_Ke_upcall 87 = .ok (.iload_n 2, 1) := by decide +kernel
theorem nd_Ke_upcall_88 : decode nc_Ke_upcall 88 = .ok (.invokevirtual 63, 3) := by decide +kernel
theorem nd_Ke_upcall_91 : decode nc_Ke_upcall 91 = .ok (.aload_n 0, 1) := by decide +kernel
theorem nd_Ke_upcall_92 : decode nc_Ke_upcall 92 = .ok (.getfield 9, 3) := by decide +kernel
theorem nd_Ke_upcall_95 : decode nc_Ke_upcall 95 = .ok (.iload 7, 2) := by decide +kernel
theorem nd_Ke_upcall_97 : decode nc_Ke_upcall 97 = .ok (.bipush 12, 2) := by decide +kernel
theorem nd_Ke_upcall_99 : decode nc_Ke_upcall 99 = .ok (.iadd, 1) := by decide +kernel
theorem nd_Ke_upcall_100 : decode nc_Ke_upcall 100 = .ok (.aload 5, 2) := by decide +kernel
theorem nd_Ke_upcall_102 : decode nc_Ke_upcall 102 = .ok (.getfield 150, 3) := by decide +kernel
theorem nd_Ke_upcall_105 : decode nc_Ke_upcall 105 = .ok (.iload_n 2, 1) := by decide +kernel
theorem nd_Ke_upcall_106 : decode nc_Ke_upcall 106 = .ok (.iaload, 1) := by decide +kernel
theorem nd_Ke_upcall_107 : decode nc_Ke_upcall 107 = .ok (.invokevirtual 63, 3) := by decide +kernel
theorem nd_Ke_upcall_110 : decode nc_Ke_upcall 110 = .ok (.aload_n 0, 1) := by decide +kernel
theorem nd_Ke_upcall_111 : decode nc_Ke_upcall 111 = .ok (.getfield 9, 3) := by decide +kernel
theorem nd_Ke_upcall_114 : decode nc_Ke_upcall 114 = .ok (.iload 7, 2) := by decide +kernel
theorem nd_Ke_upcall_116 : decode nc_Ke_upcall 116 = .ok (.bipush 20, 2) := by decide +kernel
theorem nd_Ke_upcall_118 : decode nc_Ke_upcall 118 = .ok (.iadd, 1) := by decide +kernel
theorem nd_Ke_upcall_119 : decode nc_Ke_upcall 119 = .ok (.aload_n 0, 1) := by decide +kernel
theorem nd_Ke_upcall_120 : decode nc_Ke_upcall 120 = .ok (.getfield 9, 3) := by decide +kernel
theorem nd_Ke_upcall_123 : decode nc_Ke_upcall 123 = .ok (.iload 8, 2) := by decide +kernel
theorem nd_Ke_upcall_125 : decode nc_Ke_upcall 125 = .ok (.invokevirtual 57, 3) := by decide +kernel
theorem nd_Ke_upcall_128 : decode nc_Ke_upcall 128 = .ok (.iconst 1, 1) := by decide +kernel
theorem nd_Ke_upcall_129 : decode nc_Ke_upcall 129 = .ok (.iadd, 1) := by decide +kernel
theorem nd_Ke_upcall_130 : decode nc_Ke_upcall 130 = .ok (.invokevirtual 63, 3) := by decide +kernel
theorem nd_Ke_upcall_133 : decode nc_Ke_upcall 133 = .ok (.aload_n 0, 1) := by decide +kernel
theorem nd_Ke_upcall_134 : decode nc_Ke_upcall 134 = .ok (.getfield 9, 3) := by decide +kernel
theorem nd_Ke_upcall_137 : decode nc_Ke_upcall 137 = .ok (.iload 8, 2) := by decide +kernel
theorem nd_Ke_upcall_139 : decode nc_Ke_upcall 139 = .ok (.iload 6, 2) := by decide +kernel
theorem nd_Ke_upcall_141 : decode nc_Ke_upcall 141 = .ok (.bipush (-2), 2) := by decide +kernel
theorem nd_Ke_upcall_143 : decode nc_Ke_upcall 143 = .ok (.iand, 1) := by decide +kernel
theorem nd_Ke_upcall_144 : decode nc_Ke_upcall 144 = .ok (.invokevirtual 63, 3) := by decide +kernel
theorem nd_Ke_upcall_147 : decode nc_Ke_upcall 147 = .ok (.aload_n 1, 1) := by decide +kernel
theorem nd_Ke_upcall_148 : decode nc_Ke_upcall 148 = .ok (.iconst 0, 1) := by decide +kernel
theorem nd_Ke_upcall_149 : decode nc_Ke_upcall 149 = .ok (.putfield 75, 3) := by decide +kernel
theorem nd_Ke_upcall_152 : decode nc_Ke_upcall 152 = .ok (.return_, 1) := by decide +kernel
theorem nd_Pr_init_0 : decode nc_Pr_init 0 = .ok (.aload_n 0, 1) := by decide +kernel
theorem nd_Pr_init_1 : decode nc_Pr_init 1 = .ok (.invokespecial 3, 3) := by decide +kernel
theorem nd_Pr_init_4 : decode nc_Pr_init 4 = .ok (.aload_n 0, 1) := by decide +kernel
theorem nd_Pr_init_5 : decode nc_Pr_init 5 = .ok (.aload_n 1, 1) := by decide +kernel
theorem nd_Pr_init_6 : decode nc_Pr_init 6 = .ok (.putfield 9, 3) := by decide +kernel
theorem nd_Pr_init_9 : decode nc_Pr_init 9 = .ok (.return_, 1) := by decide +kernel
theorem nd_Pr_execute_0 : decode nc_Pr_execute 0 = .ok (.aload_n 1, 1) := by decide +kernel
theorem nd_Pr_execute_1 : decode nc_Pr_execute 1 = .ok (.aload_n 1, 1) := by decide +kernel
theorem nd_Pr_execute_2 : decode nc_Pr_execute 2 = .ok (.getfield 15, 3) := by decide +kernel
theorem nd_Pr_execute_5 : decode nc_Pr_execute 5 = .ok (.invokevirtual 21, 3) := by decide +kernel
theorem nd_Pr_execute_8 : decode nc_Pr_execute 8 = .ok (.ifCond .eq 12, 3) := by decide +kernel
theorem nd_Pr_execute_11 : decode nc_Pr_execute 11 = .ok (.aload_n 1, 1) := by decide +kernel
theorem nd_Pr_execute_12 : decode nc_Pr_execute 12 = .ok (.getfield 15, 3) := by decide +kernel
theorem nd_Pr_execute_15 : decode nc_Pr_execute 15 = .ok (.iconst 1, 1) := by decide +kernel
theorem nd_Pr_execute_16 : decode nc_Pr_execute 16 = .ok (.iand, 1) := by decide +kernel
theorem nd_Pr_execute_17 : decode nc_Pr_execute 17 = .ok (.ifCond .eq 5, 3) := by decide +kernel
theorem nd_Pr_execute_20 : decode nc_Pr_execute 20 = .ok (.iconst 1, 1) := by decide +kernel
theorem nd_Pr_execute_21 : decode nc_Pr_execute 21 = .ok (.ireturn, 1) := by decide +kernel
theorem nd_Pr_execute_22 : decode nc_Pr_execute 22 = .ok (.aload_n 0, 1) := by decide +kernel
theorem nd_Pr_execute_23 : decode nc_Pr_execute 23 = .ok (.aload_n 1, 1) := by decide +kernel
theorem nd_Pr_execute_24 : decode nc_Pr_execute 24 = .ok (.getfield 15, 3) := by decide +kernel
theorem nd_Pr_execute_27 : decode nc_Pr_execute 27 = .ok (.iconst 2, 1) := by decide +kernel
theorem nd_Pr_execute_28 : decode nc_Pr_execute 28 = .ok (.iadd, 1) := by decide +kernel
theorem nd_Pr_execute_29 : decode nc_Pr_execute 29 = .ok (.putfield 25, 3) := by decide +kernel
theorem nd_Pr_execute_32 : decode nc_Pr_execute 32 = .ok (.aload_n 0, 1) := by decide +kernel
theorem nd_Pr_execute_33 : decode nc_Pr_execute 33 = .ok (.aload_n 1, 1) := by decide +kernel
theorem nd_Pr_execute_34 : decode nc_Pr_execute 34 = .ok (.aload_n 0, 1) := by decide +kernel
theorem nd_Pr_execute_35 : decode nc_Pr_execute 35 = .ok (.getfield 9, 3) := by decide +kernel
theorem nd_Pr_execute_38 : decode nc_Pr_execute 38 = .ok (.aload_n 1, 1) := by decide +kernel
theorem nd_Pr_execute_39 : decode nc_Pr_execute 39 = .ok (.getfield 15, 3) := by decide +kernel
theorem nd_Pr_execute_42 : decode nc_Pr_execute 42 = .ok (.invokevirtual 28, 3) := by decide +kernel
theorem nd_Pr_execute_45 : decode nc_Pr_execute 45 = .ok (.invokevirtual 34, 3) := by decide +kernel
theorem nd_Pr_execute_48 : decode nc_Pr_execute 48 = .ok (.istore_n 2, 1) := by decide +kernel
theorem nd_Pr_execute_49 : decode nc_Pr_execute 49 = .ok (.iload_n 2, 1) := by decide +kernel
theorem nd_Pr_execute_50 : decode nc_Pr_execute 50 = .ok (.ifCond .ne 11, 3) := by decide +kernel
theorem nd_Pr_execute_53 : decode nc_Pr_execute 53 = .ok (.aload_n 1, 1) := by decide +kernel
theorem nd_Pr_execute_54 : decode nc_Pr_execute 54 = .ok (.aload_n 0, 1) := by decide +kernel
theorem nd_Pr_execute_55 : decode nc_Pr_execute 55 = .ok (.getfield 25, 3) := by decide +kernel
theorem nd_Pr_execute_58 : decode nc_Pr_execute 58 = .ok (.putfield 15, 3) := by decide +kernel
theorem nd_Pr_execute_61 : decode nc_Pr_execute 61 = .ok (.iload_n 2, 1) := by decide +kernel
theorem nd_Pr_execute_62 : decode nc_Pr_execute 62 = .ok (.ireturn, 1) := by decide +kernel
theorem nd_Pr_dispatch_0 : decode nc_Pr_dispatch 0 = .ok (.iload_n 2, 1) := by decide +kernel
theorem nd_Pr_dispatch_1 : decode nc_Pr_dispatch 1 = .ok (.bipush 8, 2) := by decide +kernel
theorem nd_Pr_dispatch_3 : decode nc_Pr_dispatch 3 = .ok (.ishr, 1) := by decide +kernel
theorem nd_Pr_dispatch_4 : decode nc_Pr_dispatch 4 = .ok (.bipush 7, 2) := by decide +kernel
theorem nd_Pr_dispatch_6 : decode nc_Pr_dispatch 6 = .ok (.iand, 1) := by decide +kernel
theorem nd_Pr_dispatch_7 : decode nc_Pr_dispatch 7 = .ok (.istore_n 3, 1) := by decide +kernel
theorem nd_Pr_dispatch_8 : decode nc_Pr_dispatch 8 = .ok (.iconst 4, 1) := by decide +kernel
theorem nd_Pr_dispatch_9 : decode nc_Pr_dispatch 9 = .ok (.iload_n 2, 1) := by decide +kernel
theorem nd_Pr_dispatch_10 : decode nc_Pr_dispatch 10 = .ok (.sipush 255, 3) := by decide +kernel
theorem nd_Pr_dispatch_13 : decode nc_Pr_dispatch 13 = .ok (.iand, 1) := by decide +kernel
theorem nd_Pr_dispatch_14 : decode nc_Pr_dispatch 14 = .ok (.imul, 1) := by decide +kernel
theorem nd_Pr_dispatch_15 : decode nc_Pr_dispatch 15 = .ok (.istore 4, 2) := by decide +kernel
theorem nd_Pr_dispatch_17 : decode nc_Pr_dispatch 17 = .ok (.iload_n 2, 1) := by decide +kernel
theorem nd_Pr_dispatch_18 : decode nc_Pr_dispatch 18 = .ok (.bipush 11, 2) := by decide +kernel
theorem nd_Pr_dispatch_20 : decode nc_Pr_dispatch 20 = .ok (.ishr, 1) := by decide +kernel
theorem nd_Pr_dispatch_21 : decode nc_Pr_dispatch 21 = .ok (.tableswitch 369 0 28 #[131, 131, 131, 138, 145, 145, 145, 145, 152, 177, 369, 369, 196, 227, 369, 369, 369, 369, 258, 272, 369, 286, 301, 327, 369, 369, 334, 334, 341], 131) := by decide +kernel
theorem nd_Pr_dispatch_152 : decode nc_Pr_dispatch 152 = .ok (.aload_n 0, 1) := by decide +kernel
theorem nd_Pr_dispatch_153 : decode nc_Pr_dispatch 153 = .ok (.aload_n 1, 1) := by decide +kernel
theorem nd_Pr_dispatch_154 : decode nc_Pr_dispatch 154 = .ok (.iload_n 2, 1) := by decide +kernel
theorem nd_Pr_dispatch_155 : decode nc_Pr_dispatch 155 = .ok (.invokevirtual 38, 3) := by decide +kernel
theorem nd_Pr_dispatch_158 : decode nc_Pr_dispatch 158 = .ok (.ireturn, 1) := by decide +kernel
theorem nd_Pr_dispatch_159 : decode nc_Pr_dispatch 159 = .ok (.aload_n 0, 1) := by decide +kernel
theorem nd_Pr_dispatch_160 : decode nc_Pr_dispatch 160 = .ok (.aload_n 1, 1) := by decide +kernel
theorem nd_Pr_dispatch_161 : decode nc_Pr_dispatch 161 = .ok (.iload_n 2, 1) := by decide +kernel
theorem nd_Pr_dispatch_162 : decode nc_Pr_dispatch 162 = .ok (.invokevirtual 41, 3) := by decide +kernel
theorem nd_Pr_dispatch_165 : decode nc_Pr_dispatch 165 = .ok (.ireturn, 1) := by decide +kernel
theorem nd_Pr_dispatch_166 : decode nc_Pr_dispatch 166 = .ok (.aload_n 0, 1) := by decide +kernel
theorem nd_Pr_dispatch_167 : decode nc_Pr_dispatch 167 = .ok (.aload_n 1, 1) := by decide +kernel
theorem nd_Pr_dispatch_168 : decode nc_Pr_dispatch 168 = .ok (.iload_n 2, 1) := by decide +kernel
theorem nd_Pr_dispatch_169 : decode nc_Pr_dispatch 169 = .ok (.invokevirtual 44, 3) := by decide +kernel
theorem nd_Pr_dispatch_172 : decode nc_Pr_dispatch 172 = .ok (.ireturn, 1) := by decide +kernel
theorem nd_Pr_dispatch_173 : decode nc_Pr_dispatch 173 = .ok (.iload_n 2, 1) := by decide +kernel
theorem nd_Pr_dispatch_174 : decode nc_Pr_dispatch 174 = .ok (.bipush 10, 2) := by decide +kernel
theorem nd_Pr_dispatch_176 : decode nc_Pr_dispatch 176 = .ok (.ishr, 1) := by decide +kernel
theorem nd_Pr_dispatch_177 : decode nc_Pr_dispatch 177 = .ok (.bipush 16, 2) := by decide +kernel
theorem nd_Pr_dispatch_179 : decode nc_Pr_dispatch 179 = .ok (.if_icmp .ne 12, 3) := by decide +kernel
theorem nd_Pr_dispatch_182 : decode nc_Pr_dispatch 182 = .ok (.aload_n 0, 1) := by decide +kernel
theorem nd_Pr_dispatch_183 : decode nc_Pr_dispatch 183 = .ok (.aload_n 1, 1) := by decide +kernel
theorem nd_Pr_dispatch_184 : decode nc_Pr_dispatch 184 = .ok (.iload_n 2, 1) := by decide +kernel
theorem nd_Pr_dispatch_185 : decode nc_Pr_dispatch 185 = .ok (.invokevirtual 47, 3) := by decide +kernel
theorem nd_Pr_dispatch_188 : decode nc_Pr_dispatch 188 = .ok (.goto 9, 3) := by decide +kernel
theorem nd_Pr_dispatch_191 : decode nc_Pr_dispatch 191 = .ok (.aload_n 0, 1) := by decide +kernel
theorem nd_Pr_dispatch_192 : decode nc_Pr_dispatch 192 = .ok (.aload_n 1, 1) := by decide +kernel
theorem nd_Pr_dispatch_193 : decode nc_Pr_dispatch 193 = .ok (.iload_n 2, 1) := by decide +kernel
theorem nd_Pr_dispatch_194 : decode nc_Pr_dispatch 194 = .ok (.invokevirtual 50, 3) := by decide +kernel
theorem nd_Pr_dispatch_197 : decode nc_Pr_dispatch 197 = .ok (.ireturn, 1) := by decide +kernel
theorem nd_Pr_dispatch_198 : decode nc_Pr_dispatch 198 = .ok (.aload_n 0, 1) := by decide +kernel
theorem nd_Pr_dispatch_199 : decode nc_Pr_dispatch 199 = .ok (.aload_n 1, 1) := by decide +kernel
theorem nd_Pr_dispatch_200 : decode nc_Pr_dispatch 200 = .ok (.iload_n 3, 1) := by decide +kernel
theorem nd_Pr_dispatch_201 : decode nc_Pr_dispatch 201 = .ok (.aload_n 1, 1) := by decide +kernel
theorem nd_Pr_dispatch_202 : decode nc_Pr_dispatch 202 = .ok (.getfield 15, 3) := by decide +kernel
theorem nd_Pr_dispatch_205 : decode nc_Pr_dispatch 205 = .ok (.iconst 4, 1) := by decide +kernel
theorem nd_Pr_dispatch_206 : decode nc_Pr_dispatch 206 = .ok (.iadd, 1) := by decide +kernel
theorem nd_Pr_dispatch_207 : decode nc_Pr_dispatch 207 = .ok (.bipush (-4), 2) := by decide +kernel
theorem nd_Pr_dispatch_209 : decode nc_Pr_dispatch 209 = .ok (.iand, 1) := by decide +kernel
theorem nd_Pr_dispatch_210 : decode nc_Pr_dispatch 210 = .ok (.iload 4, 2) := by decide +kernel
theorem nd_Pr_dispatch_212 : decode nc_Pr_dispatch 212 = .ok (.iadd, 1) := by decide +kernel
theorem nd_Pr_dispatch_213 : decode nc_Pr_dispatch 213 = .ok (.invokevirtual 53, 3) := by decide +kernel
theorem nd_Pr_dispatch_216 : decode nc_Pr_dispatch 216 = .ok (.ireturn, 1) := by decide +kernel
theorem nd_Pr_dispatch_217 : decode nc_Pr_dispatch 217 = .ok (.aload_n 0, 1) := by decide +kernel
theorem nd_Pr_dispatch_218 : decode nc_Pr_dispatch 218 = .ok (.aload_n 1, 1) := by decide +kernel
theorem nd_Pr_dispatch_219 : decode nc_Pr_dispatch 219 = .ok (.iload_n 2, 1) := by decide +kernel
theorem nd_Pr_dispatch_220 : decode nc_Pr_dispatch 220 = .ok (.bipush 7, 2) := by decide +kernel
theorem nd_Pr_dispatch_222 : decode nc_Pr_dispatch 222 = .ok (.iand, 1) := by decide +kernel
theorem nd_Pr_dispatch_223 : decode nc_Pr_dispatch 223 = .ok (.aload_n 1, 1) := by decide +kernel
theorem nd_Pr_dispatch_224 : decode nc_Pr_dispatch 224 = .ok (.getfield 57, 3) := by decide +kernel
theorem nd_Pr_dispatch_227 : decode nc_Pr_dispatch 227 = .ok (.iload_n 2, 1) := by decide +kernel
theorem nd_Pr_dispatch_228 : decode nc_Pr_dispatch 228 = .ok (.iconst 3, 1) := by decide +kernel
theorem nd_Pr_dispatch_229 : decode nc_Pr_dispatch 229 = .ok (.ishr, 1) := by decide +kernel
theorem nd_Pr_dispatch_230 : decode nc_Pr_dispatch 230 = .ok (.bipush 7, 2) := by decide +kernel
theorem nd_Pr_dispatch_232 : decode nc_Pr_dispatch 232 = .ok (.iand, 1) := by decide +kernel
theorem nd_Pr_dispatch_233 : decode nc_Pr_dispatch 233 = .ok (.iaload, 1) := by decide +kernel
theorem nd_Pr_dispatch_234 : decode nc_Pr_dispatch 234 = .ok (.iconst 4, 1) := by decide +kernel
theorem nd_Pr_dispatch_235 : decode nc_Pr_dispatch 235 = .ok (.iload_n 2, 1) := by decide +kernel
theorem nd_Pr_dispatch_236 : decode nc_Pr_dispatch 236 = .ok (.bipush 6, 2) := by decide +kernel
theorem nd_Pr_dispatch_238 : decode nc_Pr_dispatch 238 = .ok (.ishr, 1) := by decide +kernel
theorem nd_Pr_dispatch_239 : decode nc_Pr_dispatch 239 = .ok (.bipush 31, 2) := by decide +kernel
theorem nd_Pr_dispatch_241 : decode nc_Pr_dispatch 241 = .ok (.iand, 1) := by decide +kernel
theorem nd_Pr_dispatch_242 : decode nc_Pr_dispatch 242 = .ok (.imul, 1) := by decide +kernel
theorem nd_Pr_dispatch_243 : decode nc_Pr_dispatch 243 = .ok (.iadd, 1) := by decide +kernel
theorem nd_Pr_dispatch_244 : decode nc_Pr_dispatch 244 = .ok (.invokevirtual 61, 3) := by decide +kernel
theorem nd_Pr_dispatch_247 : decode nc_Pr_dispatch 247 = .ok (.ireturn, 1) := by decide +kernel
theorem nd_Pr_dispatch_248 : decode nc_Pr_dispatch 248 = .ok (.aload_n 0, 1) := by decide +kernel
theorem nd_Pr_dispatch_249 : decode nc_Pr_dispatch 249 = .ok (.aload_n 1, 1) := by decide +kernel
theorem nd_Pr_dispatch_250 : decode nc_Pr_dispatch 250 = .ok (.iload_n 2, 1) := by decide +kernel
theorem nd_Pr_dispatch_251 : decode nc_Pr_dispatch 251 = .ok (.bipush 7, 2) := by decide +kernel
theorem nd_Pr_dispatch_253 : decode nc_Pr_dispatch 253 = .ok (.iand, 1) := by decide +kernel
theorem nd_Pr_dispatch_254 : decode nc_Pr_dispatch 254 = .ok (.aload_n 1, 1) := by decide +kernel
theorem nd_Pr_dispatch_255 : decode nc_Pr_dispatch 255 = .ok (.getfield 57, 3) := by decide +kernel
theorem nd_Pr_dispatch_258 : decode nc_Pr_dispatch 258 = .ok (.iload_n 2, 1) := by decide +kernel
theorem nd_Pr_dispatch_259 : decode nc_Pr_dispatch 259 = .ok (.iconst 3, 1) := by decide +kernel
theorem nd_Pr_dispatch_260 : decode nc_Pr_dispatch 260 = .ok (.ishr, 1) := by decide +kernel
theorem nd_Pr_dispatch_261 : decode nc_Pr_dispatch 261 = .ok (.bipush 7, 2) := by decide +kernel
theorem nd_Pr_dispatch_263 : decode nc_Pr_dispatch 263 = .ok (.iand, 1) := by decide +kernel
theorem nd_Pr_dispatch_264 : decode nc_Pr_dispatch 264 = .ok (.iaload, 1) := by decide +kernel
theorem nd_Pr_dispatch_265 : decode nc_Pr_dispatch 265 = .ok (.iconst 4, 1) := by decide +kernel
theorem nd_Pr_dispatch_266 : decode nc_Pr_dispatch 266 = .ok (.iload_n 2, 1) := by decide +kernel
theorem nd_Pr_dispatch_267 : decode nc_Pr_dispatch 267 = .ok (.bipush 6, 2) := by decide +kernel
theorem nd_Pr_dispatch_269 : decode nc_Pr_dispatch 269 = .ok (.ishr, 1) := by decide +kernel
theorem nd_Pr_dispatch_270 : decode nc_Pr_dispatch 270 = .ok (.bipush 31, 2) := by decide +kernel
theorem nd_Pr_dispatch_272 : decode nc_Pr_dispatch 272 = .ok (.iand, 1) := by decide +kernel
theorem nd_Pr_dispatch_273 : decode nc_Pr_dispatch 273 = .ok (.imul, 1) := by decide +kernel
theorem nd_Pr_dispatch_274 : decode nc_Pr_dispatch 274 = .ok (.iadd, 1) := by decide +kernel
theorem nd_Pr_dispatch_275 : decode nc_Pr_dispatch 275 = .ok (.invokevirtual 53, 3) := by decide +kernel
theorem nd_Pr_dispatch_278 : decode nc_Pr_dispatch 278 = .ok (.ireturn, 1) := by decide +kernel
theorem nd_Pr_dispatch_279 : decode nc_Pr_dispatch 279 = .ok (.aload_n 0, 1) := by decide +kernel
theorem nd_Pr_dispatch_280 : decode nc_Pr_dispatch 280 = .ok (.aload_n 1, 1) := by decide +kernel
theorem nd_Pr_dispatch_281 : decode nc_Pr_dispatch 281 = .ok (.iload_n 3, 1) := by decide +kernel
theorem nd_Pr_dispatch_282 : decode nc_Pr_dispatch 282 = .ok (.aload_n 1, 1) := by decide +kernel
theorem nd_Pr_dispatch_283 : decode nc_Pr_dispatch 283 = .ok (.getfield 64, 3) := by decide +kernel
theorem nd_Pr_dispatch_286 : decode nc_Pr_dispatch 286 = .ok (.iload 4, 2) := by decide +kernel
theorem nd_Pr_dispatch_288 : decode nc_Pr_dispatch 288 = .ok (.iadd, 1) := by decide +kernel
theorem nd_Pr_dispatch_289 : decode nc_Pr_dispatch 289 = .ok (.invokevirtual 61, 3) := by decide +kernel
theorem nd_Pr_dispatch_292 : decode nc_Pr_dispatch 292 = .ok (.ireturn, 1) := by decide +kernel
theorem nd_Pr_dispatch_293 : decode nc_Pr_dispatch 293 = .ok (.aload_n 0, 1) := by decide +kernel
theorem nd_Pr_dispatch_294 : decode nc_Pr_dispatch 294 = .ok (.aload_n 1, 1) := by decide +kernel
theorem nd_Pr_dispatch_295 : decode nc_Pr_dispatch 295 = .ok (.iload_n 3, 1) := by decide +kernel
theorem nd_Pr_dispatch_296 : decode nc_Pr_dispatch 296 = .ok (.aload_n 1, 1) := by decide +kernel
theorem nd_Pr_dispatch_297 : decode nc_Pr_dispatch 297 = .ok (.getfield 64, 3) := by decide +kernel
theorem nd_Pr_dispatch_300 : decode nc_Pr_dispatch 300 = .ok (.iload 4, 2) := by decide +kernel
theorem nd_Pr_dispatch_302 : decode nc_Pr_dispatch 302 = .ok (.iadd, 1) := by decide +kernel
theorem nd_Pr_dispatch_303 : decode nc_Pr_dispatch 303 = .ok (.invokevirtual 53, 3) := by decide +kernel
theorem nd_Pr_dispatch_306 : decode nc_Pr_dispatch 306 = .ok (.ireturn, 1) := by decide +kernel
theorem nd_Pr_dispatch_307 : decode nc_Pr_dispatch 307 = .ok (.aload_n 1, 1) := by decide +kernel
theorem nd_Pr_dispatch_308 : decode nc_Pr_dispatch 308 = .ok (.getfield 57, 3) := by decide +kernel
theorem nd_Pr_dispatch_311 : decode nc_Pr_dispatch 311 = .ok (.iload_n 3, 1) := by decide +kernel
theorem nd_Pr_dispatch_312 : decode nc_Pr_dispatch 312 = .ok (.aload_n 1, 1) := by decide +kernel
theorem nd_Pr_dispatch_313 : decode nc_Pr_dispatch 313 = .ok (.getfield 64, 3) := by decide +kernel
theorem nd_Pr_dispatch_316 : decode nc_Pr_dispatch 316 = .ok (.iload 4, 2) := by decide +kernel
theorem nd_Pr_dispatch_318 : decode nc_Pr_dispatch 318 = .ok (.iadd, 1) := by decide +kernel
theorem nd_Pr_dispatch_319 : decode nc_Pr_dispatch 319 = .ok (.iastore, 1) := by decide +kernel
theorem nd_Pr_dispatch_320 : decode nc_Pr_dispatch 320 = .ok (.iconst 0, 1) := by decide +kernel
theorem nd_Pr_dispatch_321 : decode nc_Pr_dispatch 321 = .ok (.ireturn, 1) := by decide +kernel
theorem nd_Pr_dispatch_322 : decode nc_Pr_dispatch 322 = .ok (.iload_n 2, 1) := by decide +kernel
theorem nd_Pr_dispatch_323 : decode nc_Pr_dispatch 323 = .ok (.bipush 8, 2) := by decide +kernel
theorem nd_Pr_dispatch_325 : decode nc_Pr_dispatch 325 = .ok (.ishr, 1) := by decide +kernel
theorem nd_Pr_dispatch_326 : decode nc_Pr_dispatch 326 = .ok (.sipush 176, 3) := by decide +kernel
theorem nd_Pr_dispatch_329 : decode nc_Pr_dispatch 329 = .ok (.if_icmp .ne 12, 3) := by decide +kernel
theorem nd_Pr_dispatch_332 : decode nc_Pr_dispatch 332 = .ok (.aload_n 0, 1) := by decide +kernel
theorem nd_Pr_dispatch_333 : decode nc_Pr_dispatch 333 = .ok (.aload_n 1, 1) := by decide +kernel
theorem nd_Pr_dispatch_334 : decode nc_Pr_dispatch 334 = .ok (.iload_n 2, 1) := by decide +kernel
theorem nd_Pr_dispatch_335 : decode nc_Pr_dispatch 335 = .ok (.invokevirtual 67, 3) := by decide +kernel
theorem nd_Pr_dispatch_338 : decode nc_Pr_dispatch 338 = .ok (.goto 9, 3) := by decide +kernel
theorem nd_Pr_dispatch_341 : decode nc_Pr_dispatch 341 = .ok (.aload_n 0, 1) := by decide +kernel
theorem nd_Pr_dispatch_342 : decode nc_Pr_dispatch 342 = .ok (.aload_n 1, 1) := by decide +kernel
theorem nd_Pr_dispatch_343 : decode nc_Pr_dispatch 343 = .ok (.iload_n 2, 1) := by decide +kernel
theorem nd_Pr_dispatch_344 : decode nc_Pr_dispatch 344 = .ok (.invokevirtual 70, 3) := by decide +kernel
theorem nd_Pr_dispatch_347 : decode nc_Pr_dispatch 347 = .ok (.ireturn, 1) := by decide +kernel
theorem nd_Pr_dispatch_348 : decode nc_Pr_dispatch 348 = .ok (.aload_n 0, 1) := by decide +kernel
theorem nd_Pr_dispatch_349 : decode nc_Pr_dispatch 349 = .ok (.aload_n 1, 1) := by decide +kernel
theorem nd_Pr_dispatch_350 : decode nc_Pr_dispatch 350 = .ok (.iload_n 2, 1) := by decide +kernel
theorem nd_Pr_dispatch_351 : decode nc_Pr_dispatch 351 = .ok (.invokevirtual 73, 3) := by decide +kernel
theorem nd_Pr_dispatch_354 : decode nc_Pr_dispatch 354 = .ok (.ireturn, 1) := by decide +kernel
theorem nd_Pr_dispatch_355 : decode nc_Pr_dispatch 355 = .ok (.aload_n 0, 1) := by decide +kernel
theorem nd_Pr_dispatch_356 : decode nc_Pr_dispatch 356 = .ok (.aload_n 1, 1) := by decide +kernel
theorem nd_Pr_dispatch_357 : decode nc_Pr_dispatch 357 = .ok (.iload_n 2, 1) := by decide +kernel
theorem nd_Pr_dispatch_358 : decode nc_Pr_dispatch 358 = .ok (.invokevirtual 76, 3) := by decide +kernel
theorem nd_Pr_dispatch_361 : decode nc_Pr_dispatch 361 = .ok (.ireturn, 1) := by decide +kernel
theorem nd_Pr_dispatch_362 : decode nc_Pr_dispatch 362 = .ok (.aload_n 0, 1) := by decide +kernel
theorem nd_Pr_dispatch_363 : decode nc_Pr_dispatch 363 = .ok (.aload_n 1, 1) := by decide +kernel
theorem nd_Pr_dispatch_364 : decode nc_Pr_dispatch 364 = .ok (.getfield 15, 3) := by decide +kernel
theorem nd_Pr_dispatch_367 : decode nc_Pr_dispatch 367 = .ok (.iconst 4, 1) := by decide +kernel
theorem nd_Pr_dispatch_368 : decode nc_Pr_dispatch 368 = .ok (.iadd, 1) := by decide +kernel
theorem nd_Pr_dispatch_369 : decode nc_Pr_dispatch 369 = .ok (.iconst 2, 1) := by decide +kernel
theorem nd_Pr_dispatch_370 : decode nc_Pr_dispatch 370 = .ok (.iload_n 2, 1) := by decide +kernel
theorem nd_Pr_dispatch_371 : decode nc_Pr_dispatch 371 = .ok (.sipush 2047, 3) := by decide +kernel
theorem nd_Pr_dispatch_374 : decode nc_Pr_dispatch 374 = .ok (.iand, 1) := by decide +kernel
theorem nd_Pr_dispatch_375 : decode nc_Pr_dispatch 375 = .ok (.iload_n 2, 1) := by decide +kernel
theorem nd_Pr_dispatch_376 : decode nc_Pr_dispatch 376 = .ok (.sipush 1024, 3) := by decide +kernel
theorem nd_Pr_dispatch_379 : decode nc_Pr_dispatch 379 = .ok (.iand, 1) := by decide +kernel
theorem nd_Pr_dispatch_380 : decode nc_Pr_dispatch 380 = .ok (.iconst 1, 1) := by decide +kernel
theorem nd_Pr_dispatch_381 : decode nc_Pr_dispatch 381 = .ok (.ishl, 1) := by decide +kernel
theorem nd_Pr_dispatch_382 : decode nc_Pr_dispatch 382 = .ok (.isub, 1) := by decide +kernel
theorem nd_Pr_dispatch_383 : decode nc_Pr_dispatch 383 = .ok (.imul, 1) := by decide +kernel
theorem nd_Pr_dispatch_384 : decode nc_Pr_dispatch 384 = .ok (.iadd, 1) := by decide +kernel
theorem nd_Pr_dispatch_385 : decode nc_Pr_dispatch 385 = .ok (.putfield 25, 3) := by decide +kernel
theorem nd_Pr_dispatch_388 : decode nc_Pr_dispatch 388 = .ok (.iconst 0, 1) := by decide +kernel
theorem nd_Pr_dispatch_389 : decode nc_Pr_dispatch 389 = .ok (.ireturn, 1) := by decide +kernel
theorem nd_Pr_dispatch_390 : decode nc_Pr_dispatch 390 = .ok (.iconst 2, 1) := by decide +kernel
theorem nd_Pr_dispatch_391 : decode nc_Pr_dispatch 391 = .ok (.ireturn, 1) := by decide +kernel
theorem nd_Pr_shiftByNumber_0 : decode nc_Pr_shiftByNumber 0 = .ok (.iload_n 2, 1) := by decide +kernel
theorem nd_Pr_shiftByNumber_1 : decode nc_Pr_shiftByNumber 1 = .ok (.bipush 11, 2) := by decide +kernel
theorem nd_Pr_shiftByNumber_3 : decode nc_Pr_shiftByNumber 3 = .ok (.ishr, 1) := by decide +kernel
theorem nd_Pr_shiftByNumber_4 : decode nc_Pr_shiftByNumber 4 = .ok (.istore_n 3, 1) := by decide +kernel
theorem nd_Pr_shiftByNumber_5 : decode nc_Pr_shiftByNumber 5 = .ok (.iload_n 2, 1) := by decide +kernel
theorem nd_Pr_shiftByNumber_6 : decode nc_Pr_shiftByNumber 6 = .ok (.bipush 6, 2) := by decide +kernel
theorem nd_Pr_shiftByNumber_8 : decode nc_Pr_shiftByNumber 8 = .ok (.ishr, 1) := by decide +kernel
theorem nd_Pr_shiftByNumber_9 : decode nc_Pr_shiftByNumber 9 = .ok (.bipush 31, 2) := by decide +kernel
theorem nd_Pr_shiftByNumber_11 : decode nc_Pr_shiftByNumber 11 = .ok (.iand, 1) := by decide +kernel
theorem nd_Pr_shiftByNumber_12 : decode nc_Pr_shiftByNumber 12 = .ok (.istore 4, 2) := by decide +kernel
theorem nd_Pr_shiftByNumber_14 : decode nc_Pr_shiftByNumber 14 = .ok (.iload_n 3, 1) := by decide +kernel
theorem nd_Pr_shiftByNumber_15 : decode nc_Pr_shiftByNumber 15 = .ok (.ifCond .eq 12, 3) := by decide +kernel
theorem nd_Pr_shiftByNumber_18 : decode nc_Pr_shiftByNumber 18 = .ok (.iload 4, 2) := by decide +kernel
theorem nd_Pr_shiftByNumber_20 : decode nc_Pr_shiftByNumber 20 = .ok (.ifCond .ne 7, 3) := by decide +kernel
theorem nd_Pr_shiftByNumber_23 : decode nc_Pr_shiftByNumber 23 = .ok (.bipush 32, 2) := by decide +kernel
theorem nd_Pr_shiftByNumber_25 : decode nc_Pr_shiftByNumber 25 = .ok (.istore 4, 2) := by decide +kernel
theorem nd_Pr_shiftByNumber_27 : decode nc_Pr_shiftByNumber 27 = .ok (.aload_n 1, 1) := by decide +kernel
theorem nd_Pr_shiftByNumber_28 : decode nc_Pr_shiftByNumber 28 = .ok (.getfield 57, 3) := by decide +kernel
theorem nd_Pr_shiftByNumber_31 : decode nc_Pr_shiftByNumber 31 = .ok (.iload_n 2, 1) := by decide +kernel
theorem nd_Pr_shiftByNumber_32 : decode nc_Pr_shiftByNumber 32 = .ok (.bipush 7, 2) := by decide +kernel
theorem nd_Pr_shiftByNumber_34 : decode nc_Pr_shiftByNumber 34 = .ok (.iand, 1) := by decide +kernel
theorem nd_Pr_shiftByNumber_35 : decode nc_Pr_shiftByNumber 35 = .ok (.aload_n 0, 1) := by decide +kernel
theorem nd_Pr_shiftByNumber_36 : decode nc_Pr_shiftByNumber 36 = .ok (.aload_n 1, 1) := by decide +kernel
theorem nd_Pr_shiftByNumber_37 : decode nc_Pr_shiftByNumber 37 = .ok (.iload_n 3, 1) := by decide +kernel
theorem nd_Pr_shiftByNumber_38 : decode nc_Pr_shiftByNumber 38 = .ok (.aload_n 1, 1) := by decide +kernel
theorem nd_Pr_shiftByNumber_39 : decode nc_Pr_shiftByNumber 39 = .ok (.getfield 57, 3) := by decide +kernel
theorem nd_Pr_shiftByNumber_42 : decode nc_Pr_shiftByNumber 42 = .ok (.iload_n 2, 1) := by decide +kernel
theorem nd_Pr_shiftByNumber_43 : decode nc_Pr_shiftByNumber 43 = .ok (.iconst 3, 1) := by decide +kernel
theorem nd_Pr_shiftByNumber_44 : decode nc_Pr_shiftByNumber 44 = .ok (.ishr, 1) := by decide +kernel
theorem nd_Pr_shiftByNumber_45 : decode nc_Pr_shiftByNumber 45 = .ok (.bipush 7, 2) := by decide +kernel
theorem nd_Pr_shiftByNumber_47 : decode nc_Pr_shiftByNumber 47 = .ok (.iand, 1) := by decide +kernel
theorem nd_Pr_shiftByNumber_48 : decode nc_Pr_shiftByNumber 48 = .ok (.iaload, 1) := by decide +kernel
theorem nd_Pr_shiftByNumber_49 : decode nc_Pr_shiftByNumber 49 = .ok (.iload 4, 2) := by decide +kernel
theorem nd_Pr_shiftByNumber_51 : decode nc_Pr_shiftByNumber 51 = .ok (.invokevirtual 79, 3) := by decide +kernel
theorem nd_Pr_shiftByNumber_54 : decode nc_Pr_shiftByNumber 54 = .ok (.iastore, 1) := by decide +kernel
theorem nd_Pr_shiftByNumber_55 : decode nc_Pr_shiftByNumber 55 = .ok (.iconst 0, 1) := by decide +kernel
theorem nd_Pr_shiftByNumber_56 : decode nc_Pr_shiftByNumber 56 = .ok (.ireturn, 1) := by decide +kernel
theorem nd_Pr_addThree_0 : decode nc_Pr_addThree 0 = .ok (.iload_n 2, 1) := by decide +kernel
theorem nd_Pr_addThree_1 : decode nc_Pr_addThree 1 = .ok (.bipush 6, 2) := by decide +kernel
theorem nd_Pr_addThree_3 : decode nc_Pr_addThree 3 = .ok (.ishr, 1) := by decide +kernel
theorem nd_Pr_addThree_4 : decode nc_Pr_addThree 4 = .ok (.bipush 7, 2) := by decide +kernel
theorem nd_Pr_addThree_6 : decode nc_Pr_addThree 6 = .ok (.iand, 1) := by decide +kernel
theorem nd_Pr_addThree_7 : decode nc_Pr_addThree 7 = .ok (.istore_n 3, 1) := by decide +kernel
theorem nd_Pr_addThree_8 : decode nc_Pr_addThree 8 = .ok (.aload_n 1, 1) := by decide +kernel
theorem nd_Pr_addThree_9 : decode nc_Pr_addThree 9 = .ok (.getfield 57, 3) := by decide +kernel
theorem nd_Pr_addThree_12 : decode nc_Pr_addThree 12 = .ok (.iload_n 2, 1) := by decide +kernel
theorem nd_Pr_addThree_13 : decode nc_Pr_addThree 13 = .ok (.iconst 3, 1) := by decide +kernel
theorem nd_Pr_addThree_14 : decode nc_Pr_addThree 14 = .ok (.ishr, 1) := by decide +kernel
theorem nd_Pr_addThree_15 : decode nc_Pr_addThree 15 = .ok (.bipush 7, 2) := by decide +kernel
theorem nd_Pr_addThree_17 : decode nc_Pr_addThree 17 = .ok (.iand, 1) := by decide +kernel
theorem nd_Pr_addThree_18 : decode nc_Pr_addThree 18 = .ok (.iaload, 1) := by decide +kernel
theorem nd_Pr_addThree_19 : decode nc_Pr_addThree 19 = .ok (.istore 4, 2) := by decide +kernel
theorem nd_Pr_addThree_21 : decode nc_Pr_addThree 21 = .ok (.iload_n 2, 1) := by decide +kernel
theorem nd_Pr_addThree_22 : decode nc_Pr_addThree 22 = .ok (.bipush 10, 2) := by decide +kernel
theorem nd_Pr_addThree_24 : decode nc_Pr_addThree 24 = .ok (.ishr, 1) := by decide +kernel
theorem nd_Pr_addThree_25 : decode nc_Pr_addThree 25 = .ok (.iconst 1, 1) := by decide +kernel
theorem nd_Pr_addThree_26 : decode nc_Pr_addThree 26 = .ok (.iand, 1) := by decide +kernel
theorem nd_Pr_addThree_27 : decode nc_Pr_addThree 27 = .ok (.ifCond .ne 12, 3) := by decide +kernel
theorem nd_Pr_addThree_30 : decode nc_Pr_addThree 30 = .ok (.aload_n 1, 1) := by decide +kernel
theorem nd_Pr_addThree_31 : decode nc_Pr_addThree 31 = .ok (.getfield 57, 3) := by decide +kernel
theorem nd_Pr_addThree_34 : decode nc_Pr_addThree 34 = .ok (.iload_n 3, 1) := by decide +kernel
theorem nd_Pr_addThree_35 : decode nc_Pr_addThree 35 = .ok (.iaload, 1) := by decide +kernel
theorem nd_Pr_addThree_36 : decode nc_Pr_addThree 36 = .ok (.goto 4, 3) := by decide +kernel
theorem nd_Pr_addThree_39 : decode nc_Pr_addThree 39 = .ok (.iload_n 3, 1) := by decide +kernel
theorem nd_Pr_addThree_40 : decode nc_Pr_addThree 40 = .ok (.istore 5, 2) := by decide +kernel
theorem nd_Pr_addThree_42 : decode nc_Pr_addThree 42 = .ok (.iload_n 2, 1) := by decide +kernel
theorem nd_Pr_addThree_43 : decode nc_Pr_addThree 43 = .ok (.bipush 9, 2) := by decide +kernel
theorem nd_Pr_addThree_45 : decode nc_Pr_addThree 45 = .ok (.ishr, 1) := by decide +kernel
theorem nd_Pr_addThree_46 : decode nc_Pr_addThree 46 = .ok (.iconst 1, 1) := by decide +kernel
theorem nd_Pr_addThree_47 : decode nc_Pr_addThree 47 = .ok (.iand, 1) := by decide +kernel
theorem nd_Pr_addThree_48 : decode nc_Pr_addThree 48 = .ok (.iconst 1, 1) := by decide +kernel
theorem nd_Pr_addThree_49 : decode nc_Pr_addThree 49 = .ok (.if_icmp .ne 7, 3) := by decide +kernel
theorem nd_Pr_addThree_52 : decode nc_Pr_addThree 52 = .ok (.iconst 1, 1) := by decide +kernel
theorem nd_Pr_addThree_53 : decode nc_Pr_addThree 53 = .ok (.goto 4, 3) := by decide +kernel
theorem nd_Pr_addThree_56 : decode nc_Pr_addThree 56 = .ok (.iconst 0, 1) := by decide +kernel
theorem nd_Pr_addThree_57 : decode nc_Pr_addThree 57 = .ok (.istore 6, 2) := by decide +kernel
theorem nd_Pr_addThree_59 : decode nc_Pr_addThree 59 = .ok (.aload_n 1, 1) := by decide +kernel
theorem nd_Pr_addThree_60 : decode nc_Pr_addThree 60 = .ok (.getfield 57, 3) := by decide +kernel
theorem nd_Pr_addThree_63 : decode nc_Pr_addThree 63 = .ok (.iload_n 2, 1) := by decide +kernel
theorem nd_Pr_addThree_64 : decode nc_Pr_addThree 64 = .ok (.bipush 7, 2) := by decide +kernel
theorem nd_Pr_addThree_66 : decode nc_Pr_addThree 66 = .ok (.iand, 1) := by decide +kernel
theorem nd_Pr_addThree_67 : decode nc_Pr_addThree 67 = .ok (.iload 6, 2) := by decide +kernel
theorem nd_Pr_addThree_69 : decode nc_Pr_addThree 69 = .ok (.ifCond .eq 18, 3) := by decide +kernel
theorem nd_Pr_addThree_72 : decode nc_Pr_addThree 72 = .ok (.aload_n 0, 1) := by decide +kernel
theorem nd_Pr_addThree_73 : decode nc_Pr_addThree 73 = .ok (.aload_n 1, 1) := by decide +kernel
theorem nd_Pr_addThree_74 : decode nc_Pr_addThree 74 = .ok (.iload 4, 2) := by decide +kernel
theorem nd_Pr_addThree_76 : decode nc_Pr_addThree 76 = .ok (.iload 5, 2) := by decide +kernel
theorem nd_Pr_addThree_78 : decode nc_Pr_addThree 78 = .ok (.iconst (-1), 1) := by decide +kernel
theorem nd_Pr_addThree_79 : decode nc_Pr_addThree 79 = .ok (.ixor, 1) := by decide +kernel
theorem nd_Pr_addThree_80 : decode nc_Pr_addThree 80 = .ok (.iconst 1, 1) := by decide +kernel
theorem nd_Pr_addThree_81 : decode nc_Pr_addThree 81 = .ok (.invokevirtual 83, 3) := by decide +kernel
theorem nd_Pr_addThree_84 : decode nc_Pr_addThree 84 = .ok (.goto 13, 3) := by decide +kernel
theorem nd_Pr_addThree_87 : decode nc_Pr_addThree 87 = .ok (.aload_n 0, 1) := by decide +kernel
theorem nd_Pr_addThree_88 : decode nc_Pr_addThree 88 = .ok (.aload_n 1, 1) := by decide +kernel
theorem nd_Pr_addThree_89 : decode nc_Pr_addThree 89 = .ok (.iload 4, 2) := by decide +kernel
theorem nd_Pr_addThree_91 : decode nc_Pr_addThree 91 = .ok (.iload 5, 2) := by decide +kernel
theorem nd_Pr_addThree_93 : decode nc_Pr_addThree 93 = .ok (.iconst 0, 1) := by decide +kernel
theorem nd_Pr_addThree_94 : decode nc_Pr_addThree 94 = .ok (.invokevirtual 83, 3) := by decide +kernel
theorem nd_Pr_addThree_97 : decode nc_Pr_addThree 97 = .ok (.iastore, 1) := by decide +kernel
theorem nd_Pr_addThree_98 : decode nc_Pr_addThree 98 = .ok (.iconst 0, 1) := by decide +kernel
theorem nd_Pr_addThree_99 : decode nc_Pr_addThree 99 = .ok (.ireturn, 1) := by decide +kernel
theorem nd_Pr_withByte_0 : decode nc_Pr_withByte 0 = .ok (.iload_n 2, 1) := by decide +kernel
theorem nd_Pr_withByte_1 : decode nc_Pr_withByte 1 = .ok (.bipush 8, 2) := by decide +kernel
theorem nd_Pr_withByte_3 : decode nc_Pr_withByte 3 = .ok (.ishr, 1) := by decide +kernel
theorem nd_Pr_withByte_4 : decode nc_Pr_withByte 4 = .ok (.bipush 7, 2) := by decide +kernel
theorem nd_Pr_withByte_6 : decode nc_Pr_withByte 6 = .ok (.iand, 1) := by decide +kernel
theorem nd_Pr_withByte_7 : decode nc_Pr_withByte 7 = .ok (.istore_n 3, 1) := by decide +kernel
theorem nd_Pr_withByte_8 : decode nc_Pr_withByte 8 = .ok (.aload_n 1, 1) := by decide +kernel
theorem nd_Pr_withByte_9 : decode nc_Pr_withByte 9 = .ok (.getfield 57, 3) := by decide +kernel
theorem nd_Pr_withByte_12 : decode nc_Pr_withByte 12 = .ok (.iload_n 3, 1) := by decide +kernel
theorem nd_Pr_withByte_13 : decode nc_Pr_withByte 13 = .ok (.iaload, 1) := by decide +kernel
theorem nd_Pr_withByte_14 : decode nc_Pr_withByte 14 = .ok (.istore 4, 2) := by decide +kernel
theorem nd_Pr_withByte_16 : decode nc_Pr_withByte 16 = .ok (.iload_n 2, 1) := by decide +kernel
theorem nd_Pr_withByte_17 : decode nc_Pr_withByte 17 = .ok (.sipush 255, 3) := by decide +kernel
theorem nd_Pr_withByte_20 : decode nc_Pr_withByte 20 = .ok (.iand, 1) := by decide +kernel
theorem nd_Pr_withByte_21 : decode nc_Pr_withByte 21 = .ok (.istore 5, 2) := by decide +kernel
theorem nd_Pr_withByte_23 : decode nc_Pr_withByte 23 = .ok (.iload_n 2, 1) := by decide +kernel
theorem nd_Pr_withByte_24 : decode nc_Pr_withByte 24 = .ok (.bipush 11, 2) := by decide +kernel
theorem nd_Pr_withByte_26 : decode nc_Pr_withByte 26 = .ok (.ishr, 1) := by decide +kernel
theorem nd_Pr_withByte_27 : decode nc_Pr_withByte 27 = .ok (.tableswitch 78 4 6 #[25, 43, 59], 25) := by decide +kernel
theorem nd_Pr_withByte_52 : decode nc_Pr_withByte 52 = .ok (.aload_n 1, 1) := by decide +kernel
theorem nd_Pr_withByte_53 : decode nc_Pr_withByte 53 = .ok (.getfield 57, 3) := by decide +kernel
theorem nd_Pr_withByte_56 : decode nc_Pr_withByte 56 = .ok (.iload_n 3, 1) := by decide +kernel
theorem nd_Pr_withByte_57 : decode nc_Pr_withByte 57 = .ok (.iload 5, 2) := by decide +kernel
theorem nd_Pr_withByte_59 : decode nc_Pr_withByte 59 = .ok (.iastore, 1) := by decide +kernel
theorem nd_Pr_withByte_60 : decode nc_Pr_withByte 60 = .ok (.aload_n 0, 1) := by decide +kernel
theorem nd_Pr_withByte_61 : decode nc_Pr_withByte 61 = .ok (.aload_n 1, 1) := by decide +kernel
theorem nd_Pr_withByte_62 : decode nc_Pr_withByte 62 = .ok (.iload 5, 2) := by decide +kernel
theorem nd_Pr_withByte_64 : decode nc_Pr_withByte 64 = .ok (.invokevirtual 86, 3) := by decide +kernel
theorem nd_Pr_withByte_67 : decode nc_Pr_withByte 67 = .ok (.goto 56, 3) := by decide +kernel
theorem nd_Pr_withByte_70 : decode nc_Pr_withByte 70 = .ok (.aload_n 0, 1) := by decide +kernel
theorem nd_Pr_withByte_71 : decode nc_Pr_withByte 71 = .ok (.aload_n 1, 1) := by decide +kernel
theorem nd_Pr_withByte_72 : decode nc_Pr_withByte 72 = .ok (.iload 4, 2) := by decide +kernel
theorem nd_Pr_withByte_74 : decode nc_Pr_withByte 74 = .ok (.iload 5, 2) := by decide +kernel
theorem nd_Pr_withByte_76 : decode nc_Pr_withByte 76 = .ok (.iconst (-1), 1) := by decide +kernel
theorem nd_Pr_withByte_77 : decode nc_Pr_withByte 77 = .ok (.ixor, 1) := by decide +kernel
theorem nd_Pr_withByte_78 : decode nc_Pr_withByte 78 = .ok (.iconst 1, 1) := by decide +kernel
theorem nd_Pr_withByte_79 : decode nc_Pr_withByte 79 = .ok (.invokevirtual 83, 3) := by decide +kernel
theorem nd_Pr_withByte_82 : decode nc_Pr_withByte 82 = .ok (.pop, 1) := by decide +kernel
theorem nd_Pr_withByte_83 : decode nc_Pr_withByte 83 = .ok (.goto 40, 3) := by decide +kernel
theorem nd_Pr_withByte_86 : decode nc_Pr_withByte 86 = .ok (.aload_n 1, 1) := by decide +kernel
theorem nd_Pr_withByte_87 : decode nc_Pr_withByte 87 = .ok (.getfield 57, 3) := by decide +kernel
theorem nd_Pr_withByte_90 : decode nc_Pr_withByte 90 = .ok (.iload_n 3, 1) := by decide +kernel
theorem nd_Pr_withByte_91 : decode nc_Pr_withByte 91 = .ok (.aload_n 0, 1) := by decide +kernel
theorem nd_Pr_withByte_92 : decode nc_Pr_withByte 92 = .ok (.aload_n 1, 1) := by decide +kernel
theorem nd_Pr_withByte_93 : decode nc_Pr_withByte 93 = .ok (.iload 4, 2) := by decide +kernel
theorem nd_Pr_withByte_95 : decode nc_Pr_withByte 95 = .ok (.iload 5, 2) := by decide +kernel
theorem nd_Pr_withByte_97 : decode nc_Pr_withByte 97 = .ok (.iconst 0, 1) := by decide +kernel
theorem nd_Pr_withByte_98 : decode nc_Pr_withByte 98 = .ok (.invokevirtual 83, 3) := by decide +kernel
theorem nd_Pr_withByte_101 : decode nc_Pr_withByte 101 = .ok (.iastore, 1) := by decide +kernel
theorem nd_Pr_withByte_102 : decode nc_Pr_withByte 102 = .ok (.goto 21, 3) := by decide +kernel
theorem nd_Pr_withByte_105 : decode nc_Pr_withByte 105 = .ok (.aload_n 1, 1) := by decide +kernel
theorem nd_Pr_withByte_106 : decode nc_Pr_withByte 106 = .ok (.getfield 57, 3) := by decide +kernel
theorem nd_Pr_withByte_109 : decode nc_Pr_withByte 109 = .ok (.iload_n 3, 1) := by decide +kernel
theorem nd_Pr_withByte_110 : decode nc_Pr_withByte 110 = .ok (.aload_n 0, 1) := by decide +kernel
theorem nd_Pr_withByte_111 : decode nc_Pr_withByte 111 = .ok (.aload_n 1, 1) := by decide +kernel
theorem nd_Pr_withByte_112 : decode nc_Pr_withByte 112 = .ok (.iload 4, 2) := by decide +kernel
theorem nd_Pr_withByte_114 : decode nc_Pr_withByte 114 = .ok (.iload 5, 2) := by decide +kernel
theorem nd_Pr_withByte_116 : decode nc_Pr_withByte 116 = .ok (.iconst (-1), 1) := by decide +kernel
theorem nd_Pr_withByte_117 : decode nc_Pr_withByte 117 = .ok (.ixor, 1) := by decide +kernel
theorem nd_Pr_withByte_118 : decode nc_Pr_withByte 118 = .ok (.iconst 1, 1) := by decide +kernel
theorem nd_Pr_withByte_119 : decode nc_Pr_withByte 119 = .ok (.invokevirtual 83, 3) := by decide +kernel
theorem nd_Pr_withByte_122 : decode nc_Pr_withByte 122 = .ok (.iastore, 1) := by decide +kernel
theorem nd_Pr_withByte_123 : decode nc_Pr_withByte 123 = .ok (.iconst 0, 1) := by decide +kernel
theorem nd_Pr_withByte_124 : decode nc_Pr_withByte 124 = .ok (.ireturn, 1) := by decide +kernel
theorem nd_Pr_combine_0 : decode nc_Pr_combine 0 = .ok (.iload_n 2, 1) := by decide +kernel
theorem nd_Pr_combine_1 : decode nc_Pr_combine 1 = .ok (.bipush 7, 2) := by decide +kernel
theorem nd_Pr_combine_3 : decode nc_Pr_combine 3 = .ok (.iand, 1) := by decide +kernel
theorem nd_Pr_combine_4 : decode nc_Pr_combine 4 = .ok (.istore_n 3, 1) := by decide +kernel
theorem nd_Pr_combine_5 : decode nc_Pr_combine 5 = .ok (.iload_n 2, 1) := by decide +kernel
theorem nd_Pr_combine_6 : decode nc_Pr_combine 6 = .ok (.bipush 6, 2) := by decide +kernel
theorem nd_Pr_combine_8 : decode nc_Pr_combine 8 = .ok (.ishr, 1) := by decide +kernel
theorem nd_Pr_combine_9 : decode nc_Pr_combine 9 = .ok (.bipush 15, 2) := by decide +kernel
theorem nd_Pr_combine_11 : decode nc_Pr_combine 11 = .ok (.iand, 1) := by decide +kernel
theorem nd_Pr_combine_12 : decode nc_Pr_combine 12 = .ok (.istore 4, 2) := by decide +kernel
theorem nd_Pr_combine_14 : decode nc_Pr_combine 14 = .ok (.aload_n 1, 1) := by decide +kernel
theorem nd_Pr_combine_15 : decode nc_Pr_combine 15 = .ok (.getfield 57, 3) := by decide +kernel
theorem nd_Pr_combine_18 : decode nc_Pr_combine 18 = .ok (.iload_n 3, 1) := by decide +kernel
theorem nd_Pr_combine_19 : decode nc_Pr_combine 19 = .ok (.iaload, 1) := by decide +kernel
theorem nd_Pr_combine_20 : decode nc_Pr_combine 20 = .ok (.istore 5, 2) := by decide +kernel
theorem nd_Pr_combine_22 : decode nc_Pr_combine 22 = .ok (.aload_n 1, 1) := by decide +kernel
theorem nd_Pr_combine_23 : decode nc_Pr_combine 23 = .ok (.getfield 57, 3) := by decide +kernel
theorem nd_Pr_combine_26 : decode nc_Pr_combine 26 = .ok (.iload_n 2, 1) := by decide +kernel
theorem nd_Pr_combine_27 : decode nc_Pr_combine 27 = .ok (.iconst 3, 1) := by decide +kernel
theorem nd_Pr_combine_28 : decode nc_Pr_combine 28 = .ok (.ishr, 1) := by decide +kernel
theorem nd_Pr_combine_29 : decode nc_Pr_combine 29 = .ok (.bipush 7, 2) := by decide +kernel
theorem nd_Pr_combine_31 : decode nc_Pr_combine 31 = .ok (.iand, 1) := by decide +kernel
theorem nd_Pr_combine_32 : decode nc_Pr_combine 32 = .ok (.iaload, 1) := by decide +kernel
theorem nd_Pr_combine_33 : decode nc_Pr_combine 33 = .ok (.istore 6, 2) := by decide +kernel
theorem nd_Pr_combine_35 : decode nc_Pr_combine 35 = .ok (.aload_n 1, 1) := by decide +kernel
theorem nd_Pr_combine_36 : decode nc_Pr_combine 36 = .ok (.getfield 90, 3) := by decide +kernel
theorem nd_Pr_combine_39 : decode nc_Pr_combine 39 = .ok (.iconst 1, 1) := by decide +kernel
theorem nd_Pr_combine_40 : decode nc_Pr_combine 40 = .ok (.ishr, 1) := by decide +kernel
theorem nd_Pr_combine_41 : decode nc_Pr_combine 41 = .ok (.iconst 1, 1) := by decide +kernel
theorem nd_Pr_combine_42 : decode nc_Pr_combine 42 = .ok (.iand, 1) := by decide +kernel
theorem nd_Pr_combine_43 : decode nc_Pr_combine 43 = .ok (.istore 7, 2) := by decide +kernel
theorem nd_Pr_combine_45 : decode nc_Pr_combine 45 = .ok (.iload 4, 2) := by decide +kernel
theorem nd_Pr_combine_47 : decode nc_Pr_combine 47 = .ok (.tableswitch 175 2 11 #[53, 53, 53, 75, 91, 109, 175, 127, 143, 160], 53) := by decide +kernel
theorem nd_Pr_combine_100 : decode nc_Pr_combine 100 = .ok (.aload_n 0, 1) := by decide +kernel
theorem nd_Pr_combine_101 : decode nc_Pr_combine 101 = .ok (.aload_n 1, 1) := by decide +kernel
theorem nd_Pr_combine_102 : decode nc_Pr_combine 102 = .ok (.iload 4, 2) := by decide +kernel
theorem nd_Pr_combine_104 : decode nc_Pr_combine 104 = .ok (.iconst 2, 1) := by decide +kernel
theorem nd_Pr_combine_105 : decode nc_Pr_combine 105 = .ok (.isub, 1) := by decide +kernel
theorem nd_Pr_combine_106 : decode nc_Pr_combine 106 = .ok (.iload 5, 2) := by decide +kernel
theorem nd_Pr_combine_108 : decode nc_Pr_combine 108 = .ok (.iload 6, 2) := by decide +kernel
theorem nd_Pr_combine_110 : decode nc_Pr_combine 110 = .ok (.sipush 255, 3) := by decide +kernel
theorem nd_Pr_combine_113 : decode nc_Pr_combine 113 = .ok (.iand, 1) := by decide +kernel
theorem nd_Pr_combine_114 : decode nc_Pr_combine 114 = .ok (.invokevirtual 79, 3) := by decide +kernel
theorem nd_Pr_combine_117 : decode nc_Pr_combine 117 = .ok (.istore 8, 2) := by decide +kernel
theorem nd_Pr_combine_119 : decode nc_Pr_combine 119 = .ok (.goto 122, 3) := by decide +kernel
theorem nd_Pr_combine_122 : decode nc_Pr_combine 122 = .ok (.aload_n 0, 1) := by decide +kernel
theorem nd_Pr_combine_123 : decode nc_Pr_combine 123 = .ok (.aload_n 1, 1) := by decide +kernel
theorem nd_Pr_combine_124 : decode nc_Pr_combine 124 = .ok (.iload 5, 2) := by decide +kernel
theorem nd_Pr_combine_126 : decode nc_Pr_combine 126 = .ok (.iload 6, 2) := by decide +kernel
theorem nd_Pr_combine_128 : decode nc_Pr_combine 128 = .ok (.iload 7, 2) := by decide +kernel
theorem nd_Pr_combine_130 : decode nc_Pr_combine 130 = .ok (.invokevirtual 83, 3) := by decide +kernel
theorem nd_Pr_combine_133 : decode nc_Pr_combine 133 = .ok (.istore 8, 2) := by decide +kernel
theorem nd_Pr_combine_135 : decode nc_Pr_combine 135 = .ok (.goto 106, 3) := by decide +kernel
theorem nd_Pr_combine_138 : decode nc_Pr_combine 138 = .ok (.aload_n 0, 1) := by decide +kernel
theorem nd_Pr_combine_139 : decode nc_Pr_combine 139 = .ok (.aload_n 1, 1) := by decide +kernel
theorem nd_Pr_combine_140 : decode nc_Pr_combine 140 = .ok (.iload 5, 2) := by decide +kernel
theorem nd_Pr_combine_142 : decode nc_Pr_combine 142 = .ok (.iload 6, 2) := by decide +kernel
theorem nd_Pr_combine_144 : decode nc_Pr_combine 144 = .ok (.iconst (-1), 1) := by decide +kernel
theorem nd_Pr_combine_145 : decode nc_Pr_combine 145 = .ok (.ixor, 1) := by decide +kernel
theorem nd_Pr_combine_146 : decode nc_Pr_combine 146 = .ok (.iload 7, 2) := by decide +kernel
theorem nd_Pr_combine_148 : decode nc_Pr_combine 148 = .ok (.invokevirtual 83, 3) := by decide +kernel
theorem nd_Pr_combine_151 : decode nc_Pr_combine 151 = .ok (.istore 8, 2) := by decide +kernel
theorem nd_Pr_combine_153 : decode nc_Pr_combine 153 = .ok (.goto 88, 3) := by decide +kernel
theorem nd_Pr_combine_156 : decode nc_Pr_combine 156 = .ok (.aload_n 0, 1) := by decide +kernel
theorem nd_Pr_combine_157 : decode nc_Pr_combine 157 = .ok (.aload_n 1, 1) := by decide +kernel
theorem nd_Pr_combine_158 : decode nc_Pr_combine 158 = .ok (.iload 5, 2) := by decide +kernel
theorem nd_Pr_combine_160 : decode nc_Pr_combine 160 = .ok (.iload 6, 2) := by decide +kernel
theorem nd_Pr_combine_162 : decode nc_Pr_combine 162 = .ok (.sipush 255, 3) := by decide +kernel
theorem nd_Pr_combine_165 : decode nc_Pr_combine 165 = .ok (.iand, 1) := by decide +kernel
theorem nd_Pr_combine_166 : decode nc_Pr_combine 166 = .ok (.invokevirtual 93, 3) := by decide +kernel
theorem nd_Pr_combine_169 : decode nc_Pr_combine 169 = .ok (.istore 8, 2) := by decide +kernel
theorem nd_Pr_combine_171 : decode nc_Pr_combine 171 = .ok (.goto 70, 3) := by decide +kernel
theorem nd_Pr_combine_174 : decode nc_Pr_combine 174 = .ok (.aload_n 0, 1) := by decide +kernel
theorem nd_Pr_combine_175 : decode nc_Pr_combine 175 = .ok (.aload_n 1, 1) := by decide +kernel
theorem nd_Pr_combine_176 : decode nc_Pr_combine 176 = .ok (.iconst 0, 1) := by decide +kernel
theorem nd_Pr_combine_177 : decode nc_Pr_combine 177 = .ok (.iload 6, 2) := by decide +kernel
theorem nd_Pr_combine_179 : decode nc_Pr_combine 179 = .ok (.iconst (-1), 1) := by decide +kernel
theorem nd_Pr_combine_180 : decode nc_Pr_combine 180 = .ok (.ixor, 1) := by decide +kernel
theorem nd_Pr_combine_181 : decode nc_Pr_combine 181 = .ok (.iconst 1, 1) := by decide +kernel
theorem nd_Pr_combine_182 : decode nc_Pr_combine 182 = .ok (.invokevirtual 83, 3) := by decide +kernel
theorem nd_Pr_combine_185 : decode nc_Pr_combine 185 = .ok (.istore 8, 2) := by decide +kernel
theorem nd_Pr_combine_187 : decode nc_Pr_combine 187 = .ok (.goto 54, 3) := by decide +kernel
theorem nd_Pr_combine_190 : decode nc_Pr_combine 190 = .ok (.aload_n 0, 1) := by decide +kernel
theorem nd_Pr_combine_191 : decode nc_Pr_combine 191 = .ok (.aload_n 1, 1) := by decide +kernel
theorem nd_Pr_combine_192 : decode nc_Pr_combine 192 = .ok (.iload 5, 2) := by decide +kernel
theorem nd_Pr_combine_194 : decode nc_Pr_combine 194 = .ok (.iload 6, 2) := by decide +kernel
theorem nd_Pr_combine_196 : decode nc_Pr_combine 196 = .ok (.iconst (-1), 1) := by decide +kernel
theorem nd_Pr_combine_197 : decode nc_Pr_combine 197 = .ok (.ixor, 1) := by decide +kernel
theorem nd_Pr_combine_198 : decode nc_Pr_combine 198 = .ok (.iconst 1, 1) := by decide +kernel
theorem nd_Pr_combine_199 : decode nc_Pr_combine 199 = .ok (.invokevirtual 83, 3) := by decide +kernel
theorem nd_Pr_combine_202 : decode nc_Pr_combine 202 = .ok (.istore 8, 2) := by decide +kernel
theorem nd_Pr_combine_204 : decode nc_Pr_combine 204 = .ok (.goto 37, 3) := by decide +kernel
theorem nd_Pr_combine_207 : decode nc_Pr_combine 207 = .ok (.aload_n 0, 1) := by decide +kernel
theorem nd_Pr_combine_208 : decode nc_Pr_combine 208 = .ok (.aload_n 1, 1) := by decide +kernel
theorem nd_Pr_combine_209 : decode nc_Pr_combine 209 = .ok (.iload 5, 2) := by decide +kernel
theorem nd_Pr_combine_211 : decode nc_Pr_combine 211 = .ok (.iload 6, 2) := by decide +kernel
theorem nd_Pr_combine_213 : decode nc_Pr_combine 213 = .ok (.iconst 0, 1) := by decide +kernel
theorem nd_Pr_combine_214 : decode nc_Pr_combine 214 = .ok (.invokevirtual 83, 3) := by decide +kernel
theorem nd_Pr_combine_217 : decode nc_Pr_combine 217 = .ok (.istore 8, 2) := by decide +kernel
theorem nd_Pr_combine_219 : decode nc_Pr_combine 219 = .ok (.goto 22, 3) := by decide +kernel
theorem nd_Pr_combine_222 : decode nc_Pr_combine 222 = .ok (.aload_n 0, 1) := by decide +kernel
theorem nd_Pr_combine_223 : decode nc_Pr_combine 223 = .ok (.iload 4, 2) := by decide +kernel
theorem nd_Pr_combine_225 : decode nc_Pr_combine 225 = .ok (.iload 5, 2) := by decide +kernel
theorem nd_Pr_combine_227 : decode nc_Pr_combine 227 = .ok (.iload 6, 2) := by decide +kernel
theorem nd_Pr_combine_229 : decode nc_Pr_combine 229 = .ok (.invokevirtual 96, 3) := by decide +kernel
theorem nd_Pr_combine_232 : decode nc_Pr_combine 232 = .ok (.istore 8, 2) := by decide +kernel
theorem nd_Pr_combine_234 : decode nc_Pr_combine 234 = .ok (.aload_n 0, 1) := by decide +kernel
theorem nd_Pr_combine_235 : decode nc_Pr_combine 235 = .ok (.aload_n 1, 1) := by decide +kernel
theorem nd_Pr_combine_236 : decode nc_Pr_combine 236 = .ok (.iload 8, 2) := by decide +kernel
theorem nd_Pr_combine_238 : decode nc_Pr_combine 238 = .ok (.invokevirtual 86, 3) := by decide +kernel
theorem nd_Pr_combine_241 : decode nc_Pr_combine 241 = .ok (.iload 4, 2) := by decide +kernel
theorem nd_Pr_combine_243 : decode nc_Pr_combine 243 = .ok (.bipush 8, 2) := by decide +kernel
theorem nd_Pr_combine_245 : decode nc_Pr_combine 245 = .ok (.if_icmp .eq 25, 3) := by decide +kernel
theorem nd_Pr_combine_248 : decode nc_Pr_combine 248 = .ok (.iload 4, 2) := by decide +kernel
theorem nd_Pr_combine_250 : decode nc_Pr_combine 250 = .ok (.bipush 10, 2) := by decide +kernel
theorem nd_Pr_combine_252 : decode nc_Pr_combine 252 = .ok (.if_icmp .eq 18, 3) := by decide +kernel
theorem nd_Pr_combine_255 : decode nc_Pr_combine 255 = .ok (.iload 4, 2) := by decide +kernel
theorem nd_Pr_combine_257 : decode nc_Pr_combine 257 = .ok (.bipush 11, 2) := by decide +kernel
theorem nd_Pr_combine_259 : decode nc_Pr_combine 259 = .ok (.if_icmp .eq 11, 3) := by decide +kernel
theorem nd_Pr_combine_262 : decode nc_Pr_combine 262 = .ok (.aload_n 1, 1) := by decide +kernel
theorem nd_Pr_combine_263 : decode nc_Pr_combine 263 = .ok (.getfield 57, 3) := by decide +kernel
theorem nd_Pr_combine_266 : decode nc_Pr_combine 266 = .ok (.iload_n 3, 1) := by decide +kernel
theorem nd_Pr_combine_267 : decode nc_Pr_combine 267 = .ok (.iload 8, 2) := by decide +kernel
theorem nd_Pr_combine_269 : decode nc_Pr_combine 269 = .ok (.iastore, 1) := by decide +kernel
theorem nd_Pr_combine_270 : decode nc_Pr_combine 270 = .ok (.iconst 0, 1) := by decide +kernel
theorem nd_Pr_combine_271 : decode nc_Pr_combine 271 = .ok (.ireturn, 1) := by decide +kernel
theorem nd_Pr_bitwise_0 : decode nc_Pr_bitwise 0 = .ok (.iload_n 1, 1) := by decide +kernel
theorem nd_Pr_bitwise_1 : decode nc_Pr_bitwise 1 = .ok (.tableswitch 97 1 15 #[75, 97, 97, 97, 97, 97, 97, 97, 97, 97, 97, 79, 83, 87, 93], 75) := by decide +kernel
theorem nd_Pr_bitwise_76 : decode nc_Pr_bitwise 76 = .ok (.iload_n 2, 1) := by decide +kernel
theorem nd_Pr_bitwise_77 : decode nc_Pr_bitwise 77 = .ok (.iload_n 3, 1) := by decide +kernel
theorem nd_Pr_bitwise_78 : decode nc_Pr_bitwise 78 = .ok (.ixor, 1) := by decide +kernel
theorem nd_Pr_bitwise_79 : decode nc_Pr_bitwise 79 = .ok (.ireturn, 1) := by decide +kernel
theorem nd_Pr_bitwise_80 : decode nc_Pr_bitwise 80 = .ok (.iload_n 2, 1) := by decide +kernel
theorem nd_Pr_bitwise_81 : decode nc_Pr_bitwise 81 = .ok (.iload_n 3, 1) := by decide +kernel
theorem nd_Pr_bitwise_82 : decode nc_Pr_bitwise 82 = .ok (.ior, 1) := by decide +kernel
theorem nd_Pr_bitwise_83 : decode nc_Pr_bitwise 83 = .ok (.ireturn, 1) := by decide +kernel
theorem nd_Pr_bitwise_84 : decode nc_Pr_bitwise 84 = .ok (.iload_n 2, 1) := by decide +kernel
theorem nd_Pr_bitwise_85 : decode nc_Pr_bitwise 85 = .ok (.iload_n 3, 1) := by decide +kernel
theorem nd_Pr_bitwise_86 : decode nc_Pr_bitwise 86 = .ok (.imul, 1) := by decide +kernel
theorem nd_Pr_bitwise_87 : decode nc_Pr_bitwise 87 = .ok (.ireturn, 1) := by decide +kernel
theorem nd_Pr_bitwise_88 : decode nc_Pr_bitwise 88 = .ok (.iload_n 2, 1) := by decide +kernel
theorem nd_Pr_bitwise_89 : decode nc_Pr_bitwise 89 = .ok (.iload_n 3, 1) := by decide +kernel
theorem nd_Pr_bitwise_90 : decode nc_Pr_bitwise 90 = .ok (.iconst (-1), 1) := by decide +kernel
theorem nd_Pr_bitwise_91 : decode nc_Pr_bitwise 91 = .ok (.ixor, 1) := by decide +kernel
theorem nd_Pr_bitwise_92 : decode nc_Pr_bitwise 92 = .ok (.iand, 1) := by decide +kernel
theorem nd_Pr_bitwise_93 : decode nc_Pr_bitwise 93 = .ok (.ireturn, 1) := by decide +kernel
theorem nd_Pr_bitwise_94 : decode nc_Pr_bitwise 94 = .ok (.iload_n 3, 1) := by decide +kernel
theorem nd_Pr_bitwise_95 : decode nc_Pr_bitwise 95 = .ok (.iconst (-1), 1) := by decide +kernel
theorem nd_Pr_bitwise_96 : decode nc_Pr_bitwise 96 = .ok (.ixor, 1) := by decide +kernel
theorem nd_Pr_bitwise_97 : decode nc_Pr_bitwise 97 = .ok (.ireturn, 1) := by decide +kernel
theorem nd_Pr_bitwise_98 : decode nc_Pr_bitwise 98 = .ok (.iload_n 2, 1) := by decide +kernel
theorem nd_Pr_bitwise_99 : decode nc_Pr_bitwise 99 = .ok (.iload_n 3, 1) := by decide +kernel
theorem nd_Pr_bitwise_100 : decode nc_Pr_bitwise 100 = .ok (.iand, 1) := by decide +kernel
theorem nd_Pr_bitwise_101 : decode nc_Pr_bitwise 101 = .ok (.ireturn, 1) := by decide +kernel
theorem nd_Pr_jump_0 : decode nc_Pr_jump 0 = .ok (.iload_n 2, 1) := by decide +kernel
theorem nd_Pr_jump_1 : decode nc_Pr_jump 1 = .ok (.bipush 7, 2) := by decide +kernel
theorem nd_Pr_jump_3 : decode nc_Pr_jump 3 = .ok (.ishr, 1) := by decide +kernel
theorem nd_Pr_jump_4 : decode nc_Pr_jump 4 = .ok (.istore_n 3, 1) := by decide +kernel
theorem nd_Pr_jump_5 : decode nc_Pr_jump 5 = .ok (.iload_n 2, 1) := by decide +kernel
theorem nd_Pr_jump_6 : decode nc_Pr_jump 6 = .ok (.iconst 3, 1) := by decide +kernel
theorem nd_Pr_jump_7 : decode nc_Pr_jump 7 = .ok (.ishr, 1) := by decide +kernel
theorem nd_Pr_jump_8 : decode nc_Pr_jump 8 = .ok (.bipush 15, 2) := by decide +kernel
theorem nd_Pr_jump_10 : decode nc_Pr_jump 10 = .ok (.iand, 1) := by decide +kernel
theorem nd_Pr_jump_11 : decode nc_Pr_jump 11 = .ok (.istore 4, 2) := by decide +kernel
theorem nd_Pr_jump_13 : decode nc_Pr_jump 13 = .ok (.iload_n 3, 1) := by decide +kernel
theorem nd_Pr_jump_14 : decode nc_Pr_jump 14 = .ok (.sipush 142, 3) := by decide +kernel
theorem nd_Pr_jump_17 : decode nc_Pr_jump 17 = .ok (.if_icmp .eq 10, 3) := by decide +kernel
theorem nd_Pr_jump_20 : decode nc_Pr_jump 20 = .ok (.iload_n 3, 1) := by decide +kernel
theorem nd_Pr_jump_21 : decode nc_Pr_jump 21 = .ok (.sipush 143, 3) := by decide +kernel
theorem nd_Pr_jump_24 : decode nc_Pr_jump 24 = .ok (.if_icmp .ne 24, 3) := by decide +kernel
theorem nd_Pr_jump_27 : decode nc_Pr_jump 27 = .ok (.iload_n 2, 1) := by decide +kernel
theorem nd_Pr_jump_28 : decode nc_Pr_jump 28 = .ok (.bipush 7, 2) := by decide +kernel
theorem nd_Pr_jump_30 : decode nc_Pr_jump 30 = .ok (.iand, 1) := by decide +kernel
theorem nd_Pr_jump_31 : decode nc_Pr_jump 31 = .ok (.ifCond .ne 17, 3) := by decide +kernel
theorem nd_Pr_jump_34 : decode nc_Pr_jump 34 = .ok (.iload 4, 2) := by decide +kernel
theorem nd_Pr_jump_36 : decode nc_Pr_jump 36 = .ok (.bipush 7, 2) := by decide +kernel
theorem nd_Pr_jump_38 : decode nc_Pr_jump 38 = .ok (.if_icmp .le 12, 3) := by decide +kernel
theorem nd_Pr_jump_41 : decode nc_Pr_jump 41 = .ok (.iload 4, 2) := by decide +kernel
theorem nd_Pr_jump_43 : decode nc_Pr_jump 43 = .ok (.bipush 14, 2) := by decide +kernel
theorem nd_Pr_jump_45 : decode nc_Pr_jump 45 = .ok (.if_icmp .eq 5, 3) := by decide +kernel
theorem nd_Pr_jump_48 : decode nc_Pr_jump 48 = .ok (.iconst 2, 1) := by decide +kernel
theorem nd_Pr_jump_49 : decode nc_Pr_jump 49 = .ok (.ireturn, 1) := by decide +kernel
theorem nd_Pr_jump_50 : decode nc_Pr_jump 50 = .ok (.iload 4, 2) := by decide +kernel
theorem nd_Pr_jump_52 : decode nc_Pr_jump 52 = .ok (.bipush 14, 2) := by decide +kernel
theorem nd_Pr_jump_54 : decode nc_Pr_jump 54 = .ok (.if_icmp .ne 10, 3) := by decide +kernel
theorem nd_Pr_jump_57 : decode nc_Pr_jump 57 = .ok (.aload_n 1, 1) := by decide +kernel
theorem nd_Pr_jump_58 : decode nc_Pr_jump 58 = .ok (.getfield 100, 3) := by decide +kernel
theorem nd_Pr_jump_61 : decode nc_Pr_jump 61 = .ok (.goto 13, 3) := by decide +kernel
theorem nd_Pr_jump_64 : decode nc_Pr_jump 64 = .ok (.aload_n 1, 1) := by decide +kernel
theorem nd_Pr_jump_65 : decode nc_Pr_jump 65 = .ok (.getfield 57, 3) := by decide +kernel
theorem nd_Pr_jump_68 : decode nc_Pr_jump 68 = .ok (.iload 4, 2) := by decide +kernel
theorem nd_Pr_jump_70 : decode nc_Pr_jump 70 = .ok (.bipush 7, 2) := by decide +kernel
theorem nd_Pr_jump_72 : decode nc_Pr_jump 72 = .ok (.iand, 1) := by decide +kernel
theorem nd_Pr_jump_73 : decode nc_Pr_jump 73 = .ok (.iaload, 1) := by decide +kernel
theorem nd_Pr_jump_74 : decode nc_Pr_jump 74 = .ok (.istore 5, 2) := by decide +kernel
theorem nd_Pr_jump_76 : decode nc_Pr_jump 76 = .ok (.iload 5, 2) := by decide +kernel
theorem nd_Pr_jump_78 : decode nc_Pr_jump 78 = .ok (.iconst 1, 1) := by decide +kernel
theorem nd_Pr_jump_79 : decode nc_Pr_jump 79 = .ok (.iand, 1) := by decide +kernel
theorem nd_Pr_jump_80 : decode nc_Pr_jump 80 = .ok (.ifCond .ne 5, 3) := by decide +kernel
theorem nd_Pr_jump_83 : decode nc_Pr_jump 83 = .ok (.iconst 5, 1) := by decide +kernel
theorem nd_Pr_jump_84 : decode nc_Pr_jump 84 = .ok (.ireturn, 1) := by decide +kernel
theorem nd_Pr_jump_85 : decode nc_Pr_jump 85 = .ok (.aload_n 0, 1) := by decide +kernel
theorem nd_Pr_jump_86 : decode nc_Pr_jump 86 = .ok (.iload 5, 2) := by decide +kernel
theorem nd_Pr_jump_88 : decode nc_Pr_jump 88 = .ok (.iconst 1, 1) := by decide +kernel
theorem nd_Pr_jump_89 : decode nc_Pr_jump 89 = .ok (.isub, 1) := by decide +kernel
theorem nd_Pr_jump_90 : decode nc_Pr_jump 90 = .ok (.putfield 25, 3) := by decide +kernel
theorem nd_Pr_jump_93 : decode nc_Pr_jump 93 = .ok (.iload_n 3, 1) := by decide +kernel
theorem nd_Pr_jump_94 : decode nc_Pr_jump 94 = .ok (.sipush 143, 3) := by decide +kernel
theorem nd_Pr_jump_97 : decode nc_Pr_jump 97 = .ok (.if_icmp .ne 13, 3) := by decide +kernel
theorem nd_Pr_jump_100 : decode nc_Pr_jump 100 = .ok (.aload_n 1, 1) := by decide +kernel
theorem nd_Pr_jump_101 : decode nc_Pr_jump 101 = .ok (.aload_n 1, 1) := by decide +kernel
theorem nd_Pr_jump_102 : decode nc_Pr_jump 102 = .ok (.getfield 15, 3) := by decide +kernel
theorem nd_Pr_jump_105 : decode nc_Pr_jump 105 = .ok (.iconst 3, 1) := by decide +kernel
theorem nd_Pr_jump_106 : decode nc_Pr_jump 106 = .ok (.iadd, 1) := by decide +kernel
theorem nd_Pr_jump_107 : decode nc_Pr_jump 107 = .ok (.putfield 100, 3) := by decide +kernel
theorem nd_Pr_jump_110 : decode nc_Pr_jump 110 = .ok (.iconst 0, 1) := by decide +kernel
theorem nd_Pr_jump_111 : decode nc_Pr_jump 111 = .ok (.ireturn, 1) := by decide +kernel
theorem nd_Pr_loadInto_0 : decode nc_Pr_loadInto 0 = .ok (.iload_n 3, 1) := by decide +kernel
theorem nd_Pr_loadInto_1 : decode nc_Pr_loadInto 1 = .ok (.iconst 3, 1) := by decide +kernel
theorem nd_Pr_loadInto_2 : decode nc_Pr_loadInto 2 = .ok (.iand, 1) := by decide +kernel
theorem nd_Pr_loadInto_3 : decode nc_Pr_loadInto 3 = .ok (.ifCond .eq 5, 3) := by decide +kernel
theorem nd_Pr_loadInto_6 : decode nc_Pr_loadInto 6 = .ok (.iconst 3, 1) := by decide +kernel
theorem nd_Pr_loadInto_7 : decode nc_Pr_loadInto 7 = .ok (.ireturn, 1) := by decide +kernel
theorem nd_Pr_loadInto_8 : decode nc_Pr_loadInto 8 = .ok (.aload_n 1, 1) := by decide +kernel
theorem nd_Pr_loadInto_9 : decode nc_Pr_loadInto 9 = .ok (.iload_n 3, 1) := by decide +kernel
theorem nd_Pr_loadInto_10 : decode nc_Pr_loadInto 10 = .ok (.invokevirtual 103, 3) := by decide +kernel
theorem nd_Pr_loadInto_13 : decode nc_Pr_loadInto 13 = .ok (.ifCond .ne 5, 3) := by decide +kernel
theorem nd_Pr_loadInto_16 : decode nc_Pr_loadInto 16 = .ok (.iconst 4, 1) := by decide +kernel
theorem nd_Pr_loadInto_17 : decode nc_Pr_loadInto 17 = .ok (.ireturn, 1) := by decide +kernel
theorem nd_Pr_loadInto_18 : decode nc_Pr_loadInto 18 = .ok (.aload_n 1, 1) := by decide +kernel
theorem nd_Pr_loadInto_19 : decode nc_Pr_loadInto 19 = .ok (.getfield 57, 3) := by decide +kernel
theorem nd_Pr_loadInto_22 : decode nc_Pr_loadInto 22 = .ok (.iload_n 2, 1) := by decide +kernel
theorem nd_Pr_loadInto_23 : decode nc_Pr_loadInto 23 = .ok (.aload_n 1, 1) := by decide +kernel
theorem nd_Pr_loadInto_24 : decode nc_Pr_loadInto 24 = .ok (.iload_n 3, 1) := by decide +kernel
theorem nd_Pr_loadInto_25 : decode nc_Pr_loadInto 25 = .ok (.invokevirtual 106, 3) := by decide +kernel
theorem nd_Pr_loadInto_28 : decode nc_Pr_loadInto 28 = .ok (.iastore, 1) := by decide +kernel
theorem nd_Pr_loadInto_29 : decode nc_Pr_loadInto 29 = .ok (.iconst 0, 1) := by decide +kernel
theorem nd_Pr_loadInto_30 : decode nc_Pr_loadInto 30 = .ok (.ireturn, 1) := by decide +kernel
theorem nd_Pr_storeFrom_0 : decode nc_Pr_storeFrom 0 = .ok (.iload_n 3, 1) := by decide +kernel
theorem nd_Pr_storeFrom_1 : decode nc_Pr_storeFrom 1 = .ok (.iconst 3, 1) := by decide +kernel
theorem nd_Pr_storeFrom_2 : decode nc_Pr_storeFrom 2 = .ok (.iand, 1) := by decide +kernel
theorem nd_Pr_storeFrom_3 : decode nc_Pr_storeFrom 3 = .ok (.ifCond .eq 5, 3) := by decide +kernel
theorem nd_Pr_storeFrom_6 : decode nc_Pr_storeFrom 6 = .ok (.iconst 3, 1) := by decide +kernel
theorem nd_Pr_storeFrom_7 : decode nc_Pr_storeFrom 7 = .ok (.ireturn, 1) := by decide +kernel
theorem nd_Pr_storeFrom_8 : decode nc_Pr_storeFrom 8 = .ok (.aload_n 1, 1) := by decide +kernel
theorem nd_Pr_storeFrom_9 : decode nc_Pr_storeFrom 9 = .ok (.iload_n 3, 1) := by decide +kernel
theorem nd_Pr_storeFrom_10 : decode nc_Pr_storeFrom 10 = .ok (.iconst 1, 1) := by decide +kernel
theorem nd_Pr_storeFrom_11 : decode nc_Pr_storeFrom 11 = .ok (.invokevirtual 109, 3) := by decide +kernel
theorem nd_Pr_storeFrom_14 : decode nc_Pr_storeFrom 14 = .ok (.ifCond .ne 5, 3) := by decide +kernel
theorem nd_Pr_storeFrom_17 : decode nc_Pr_storeFrom 17 = .ok (.iconst 4, 1) := by decide +kernel
theorem nd_Pr_storeFrom_18 : decode nc_Pr_storeFrom 18 = .ok (.ireturn, 1) := by decide +kernel
theorem nd_Pr_storeFrom_19 : decode nc_Pr_storeFrom 19 = .ok (.aload_n 0, 1) := by decide +kernel
theorem nd_Pr_storeFrom_20 : decode nc_Pr_storeFrom 20 = .ok (.getfield 9, 3) := by decide +kernel
theorem nd_Pr_storeFrom_23 : decode nc_Pr_storeFrom 23 = .ok (.iload_n 3, 1) := by decide +kernel
theorem nd_Pr_storeFrom_24 : decode nc_Pr_storeFrom 24 = .ok (.aload_n 1, 1) := by decide +kernel
theorem nd_Pr_storeFrom_25 : decode nc_Pr_storeFrom 25 = .ok (.getfield 57, 3) := by decide +kernel
theorem nd_Pr_storeFrom_28 : decode nc_Pr_storeFrom 28 = .ok (.iload_n 2, 1) := by decide +kernel
theorem nd_Pr_storeFrom_29 : decode nc_Pr_storeFrom 29 = .ok (.iaload, 1) := by decide +kernel
theorem nd_Pr_storeFrom_30 : decode nc_Pr_storeFrom 30 = .ok (.invokevirtual 113, 3) := by decide +kernel
theorem nd_Pr_storeFrom_33 : decode nc_Pr_storeFrom 33 = .ok (.iconst 0, 1) := by decide +kernel
theorem nd_Pr_storeFrom_34 : decode nc_Pr_storeFrom 34 = .ok (.ireturn, 1) := by decide +kernel
theorem nd_Pr_moveStack_0 : decode nc_Pr_moveStack 0 = .ok (.iconst 4, 1) := by decide +kernel
theorem nd_Pr_moveStack_1 : decode nc_Pr_moveStack 1 = .ok (.iload_n 2, 1) := by decide +kernel
theorem nd_Pr_moveStack_2 : decode nc_Pr_moveStack 2 = .ok (.bipush 127, 2) := by decide +kernel
theorem nd_Pr_moveStack_4 : decode nc_Pr_moveStack 4 = .ok (.iand, 1) := by decide +kernel
theorem nd_Pr_moveStack_5 : decode nc_Pr_moveStack 5 = .ok (.imul, 1) := by decide +kernel
theorem nd_Pr_moveStack_6 : decode nc_Pr_moveStack 6 = .ok (.istore_n 3, 1) := by decide +kernel
theorem nd_Pr_moveStack_7 : decode nc_Pr_moveStack 7 = .ok (.aload_n 1, 1) := by decide +kernel
theorem nd_Pr_moveStack_8 : decode nc_Pr_moveStack 8 = .ok (.dup, 1) := by decide +kernel
theorem nd_Pr_moveStack_9 : decode nc_Pr_moveStack 9 = .ok (.getfield 64, 3) := by decide +kernel
theorem nd_Pr_moveStack_12 : decode nc_Pr_moveStack 12 = .ok (.iload_n 2, 1) := by decide +kernel
theorem nd_Pr_moveStack_13 : decode nc_Pr_moveStack 13 = .ok (.sipush 128, 3) := by decide +kernel
theorem nd_Pr_moveStack_16 : decode nc_Pr_moveStack 16 = .ok (.iand, 1) := by decide +kernel
theorem nd_Pr_moveStack_17 : decode nc_Pr_moveStack 17 = .ok (.ifCond .ne 7, 3) := by decide +kernel
theorem nd_Pr_moveStack_20 : decode nc_Pr_moveStack 20 = .ok (.iload_n 3, 1) := by decide +kernel
theorem nd_Pr_moveStack_21 : decode nc_Pr_moveStack 21 = .ok (.goto 5, 3) := by decide +kernel
theorem nd_Pr_moveStack_24 : decode nc_Pr_moveStack 24 = .ok (.iload_n 3, 1) := by decide +kernel
theorem nd_Pr_moveStack_25 : decode nc_Pr_moveStack 25 = .ok (.ineg, 1) := by decide +kernel
theorem nd_Pr_moveStack_26 : decode nc_Pr_moveStack 26 = .ok (.iadd, 1) := by decide +kernel
theorem nd_Pr_moveStack_27 : decode nc_Pr_moveStack 27 = .ok (.putfield 64, 3) := by decide +kernel
theorem nd_Pr_moveStack_30 : decode nc_Pr_moveStack 30 = .ok (.iconst 0, 1) := by decide +kernel
theorem nd_Pr_moveStack_31 : decode nc_Pr_moveStack 31 = .ok (.ireturn, 1) := by decide +kernel
theorem nd_Pr_push_0 : decode nc_Pr_push 0 = .ok (.iload_n 2, 1) := by decide +kernel
theorem nd_Pr_push_1 : decode nc_Pr_push 1 = .ok (.bipush 9, 2) := by decide +kernel
theorem nd_Pr_push_3 : decode nc_Pr_push 3 = .ok (.ishr, 1) := by decide +kernel
theorem nd_Pr_push_4 : decode nc_Pr_push 4 = .ok (.bipush 90, 2) := by decide +kernel
theorem nd_Pr_push_6 : decode nc_Pr_push 6 = .ok (.if_icmp .eq 5, 3) := by decide +kernel
theorem nd_Pr_push_9 : decode nc_Pr_push 9 = .ok (.iconst 2, 1) := by decide +kernel
theorem nd_Pr_push_10 : decode nc_Pr_push 10 = .ok (.ireturn, 1) := by decide +kernel
theorem nd_Pr_push_11 : decode nc_Pr_push 11 = .ok (.iload_n 2, 1) := by decide +kernel
theorem nd_Pr_push_12 : decode nc_Pr_push 12 = .ok (.sipush 511, 3) := by decide +kernel
theorem nd_Pr_push_15 : decode nc_Pr_push 15 = .ok (.iand, 1) := by decide +kernel
theorem nd_Pr_push_16 : decode nc_Pr_push 16 = .ok (.invokestatic 117, 3) := by decide +kernel
theorem nd_Pr_push_19 : decode nc_Pr_push 19 = .ok (.istore_n 3, 1) := by decide +kernel
theorem nd_Pr_push_20 : decode nc_Pr_push 20 = .ok (.aload_n 1, 1) := by decide +kernel
theorem nd_Pr_push_21 : decode nc_Pr_push 21 = .ok (.getfield 64, 3) := by decide +kernel
theorem nd_Pr_push_24 : decode nc_Pr_push 24 = .ok (.iconst 4, 1) := by decide +kernel
theorem nd_Pr_push_25 : decode nc_Pr_push 25 = .ok (.iload_n 3, 1) := by decide +kernel
theorem nd_Pr_push_26 : decode nc_Pr_push 26 = .ok (.imul, 1) := by decide +kernel
theorem nd_Pr_push_27 : decode nc_Pr_push 27 = .ok (.isub, 1) := by decide +kernel
theorem nd_Pr_push_28 : decode nc_Pr_push 28 = .ok (.istore 4, 2) := by decide +kernel
theorem nd_Pr_push_30 : decode nc_Pr_push 30 = .ok (.iload_n 3, 1) := by decide +kernel
theorem nd_Pr_push_31 : decode nc_Pr_push 31 = .ok (.ifCond .le 15, 3) := by decide +kernel
theorem nd_Pr_push_34 : decode nc_Pr_push 34 = .ok (.aload_n 1, 1) := by decide +kernel
theorem nd_Pr_push_35 : decode nc_Pr_push 35 = .ok (.iload 4, 2) := by decide +kernel
theorem nd_Pr_push_37 : decode nc_Pr_push 37 = .ok (.iload_n 3, 1) := by decide +kernel
theorem nd_Pr_push_38 : decode nc_Pr_push 38 = .ok (.invokevirtual 109, 3) := by decide +kernel
theorem nd_Pr_push_41 : decode nc_Pr_push 41 = .ok (.ifCond .ne 5, 3) := by decide +kernel
theorem nd_Pr_push_44 : decode nc_Pr_push 44 = .ok (.iconst 4, 1) := by decide +kernel
theorem nd_Pr_push_45 : decode nc_Pr_push 45 = .ok (.ireturn, 1) := by decide +kernel
theorem nd_Pr_push_46 : decode nc_Pr_push 46 = .ok (.iload 4, 2) := by decide +kernel
theorem nd_Pr_push_48 : decode nc_Pr_push 48 = .ok (.istore 5, 2) := by decide +kernel
theorem nd_Pr_push_50 : decode nc_Pr_push 50 = .ok (.iconst 0, 1) := by decide +kernel
theorem nd_Pr_push_51 : decode nc_Pr_push 51 = .ok (.istore 6, 2) := by decide +kernel
theorem nd_Pr_push_53 : decode nc_Pr_push 53 = .ok (.iload 6, 2) := by decide +kernel
theorem nd_Pr_push_55 : decode nc_Pr_push 55 = .ok (.bipush 8, 2) := by decide +kernel
theorem nd_Pr_push_57 : decode nc_Pr_push 57 = .ok (.if_icmp .ge 38, 3) := by decide +kernel
theorem nd_Pr_push_60 : decode nc_Pr_push 60 = .ok (.iload_n 2, 1) := by decide +kernel
theorem nd_Pr_push_61 : decode nc_Pr_push 61 = .ok (.iload 6, 2) := by decide +kernel
theorem nd_Pr_push_63 : decode nc_Pr_push 63 = .ok (.ishr, 1) := by decide +kernel
theorem nd_Pr_push_64 : decode nc_Pr_push 64 = .ok (.iconst 1, 1) := by decide +kernel
theorem nd_Pr_push_65 : decode nc_Pr_push 65 = .ok (.iand, 1) := by decide +kernel
theorem nd_Pr_push_66 : decode nc_Pr_push 66 = .ok (.iconst 1, 1) := by decide +kernel
theorem nd_Pr_push_67 : decode nc_Pr_push 67 = .ok (.if_icmp .ne 22, 3) := by decide +kernel
theorem nd_Pr_push_70 : decode nc_Pr_push 70 = .ok (.aload_n 0, 1) := by decide +kernel
theorem nd_Pr_push_71 : decode nc_Pr_push 71 = .ok (.getfield 9, 3) := by decide +kernel
theorem nd_Pr_push_74 : decode nc_Pr_push 74 = .ok (.iload 5, 2) := by decide +kernel
theorem nd_Pr_push_76 : decode nc_Pr_push 76 = .ok (.aload_n 1, 1) := by decide +kernel
theorem nd_Pr_push_77 : decode nc_Pr_push 77 = .ok (.getfield 57, 3) := by decide +kernel
theorem nd_Pr_push_80 : decode nc_Pr_push 80 = .ok (.iload 6, 2) := by decide +kernel
theorem nd_Pr_push_82 : decode nc_Pr_push 82 = .ok (.iaload, 1) := by decide +kernel
theorem nd_Pr_push_83 : decode nc_Pr_push 83 = .ok (.invokevirtual 113, 3) := by decide +kernel
theorem nd_Pr_push_86 : decode nc_Pr_push 86 = .ok (.iinc 5 4, 3) := by decide +kernel
theorem nd_Pr_push_89 : decode nc_Pr_push 89 = .ok (.iinc 6 1, 3) := by decide +kernel
theorem nd_Pr_push_92 : decode nc_Pr_push 92 = .ok (.goto (-39), 3) := by decide +kernel
theorem nd_Pr_push_95 : decode nc_Pr_push 95 = .ok (.iload_n 2, 1) := by decide +kernel
theorem nd_Pr_push_96 : decode nc_Pr_push 96 = .ok (.sipush 256, 3) := by decide +kernel
theorem nd_Pr_push_99 : decode nc_Pr_push 99 = .ok (.iand, 1) := by decide +kernel
theorem nd_Pr_push_100 : decode nc_Pr_push 100 = .ok (.ifCond .eq 16, 3) := by decide +kernel
theorem nd_Pr_push_103 : decode nc_Pr_push 103 = .ok (.aload_n 0, 1) := by decide +kernel
theorem nd_Pr_push_104 : decode nc_Pr_push 104 = .ok (.getfield 9, 3) := by decide +kernel
theorem nd_Pr_push_107 : decode nc_Pr_push 107 = .ok (.iload 5, 2) := by decide +kernel
theorem nd_Pr_push_109 : decode nc_Pr_push 109 = .ok (.aload_n 1, 1) := by decide +kernel
theorem nd_Pr_push_110 : decode nc_Pr_push 110 = .ok (.getfield 100, 3) := by decide +kernel
theorem nd_Pr_push_113 : decode nc_Pr_push 113 = .ok (.invokevirtual 113, 3) := by decide +kernel
theorem nd_Pr_push_116 : decode nc_Pr_push 116 = .ok (.aload_n 1, 1) := by decide +kernel
theorem nd_Pr_push_117 : decode nc_Pr_push 117 = .ok (.iload 4, 2) := by decide +kernel
theorem nd_Pr_push_119 : decode nc_Pr_push 119 = .ok (.putfield 64, 3) := by decide +kernel
theorem nd_Pr_push_122 : decode nc_Pr_push 122 = .ok (.iconst 0, 1) := by decide +kernel
theorem nd_Pr_push_123 : decode nc_Pr_push 123 = .ok (.ireturn, 1) := by decide +kernel
theorem nd_Pr_pop_0 : decode nc_Pr_pop 0 = .ok (.iload_n 2, 1) := by decide +kernel
theorem nd_Pr_pop_1 : decode nc_Pr_pop 1 = .ok (.bipush 9, 2) := by decide +kernel
theorem nd_Pr_pop_3 : decode nc_Pr_pop 3 = .ok (.ishr, 1) := by decide +kernel
theorem nd_Pr_pop_4 : decode nc_Pr_pop 4 = .ok (.bipush 94, 2) := by decide +kernel
theorem nd_Pr_pop_6 : decode nc_Pr_pop 6 = .ok (.if_icmp .eq 5, 3) := by decide +kernel
theorem nd_Pr_pop_9 : decode nc_Pr_pop 9 = .ok (.iconst 2, 1) := by decide +kernel
theorem nd_Pr_pop_10 : decode nc_Pr_pop 10 = .ok (.ireturn, 1) := by decide +kernel
theorem nd_Pr_pop_11 : decode nc_Pr_pop 11 = .ok (.iload_n 2, 1) := by decide +kernel
theorem nd_Pr_pop_12 : decode nc_Pr_pop 12 = .ok (.sipush 511, 3) := by decide +kernel
theorem nd_Pr_pop_15 : decode nc_Pr_pop 15 = .ok (.iand, 1) := by decide +kernel
theorem nd_Pr_pop_16 : decode nc_Pr_pop 16 = .ok (.invokestatic 117, 3) := by decide +kernel
theorem nd_Pr_pop_19 : decode nc_Pr_pop 19 = .ok (.istore_n 3, 1) := by decide +kernel
theorem nd_Pr_pop_20 : decode nc_Pr_pop 20 = .ok (.iconst 0, 1) := by decide +kernel
theorem nd_Pr_pop_21 : decode nc_Pr_pop 21 = .ok (.istore 4, 2) := by decide +kernel
theorem nd_Pr_pop_23 : decode nc_Pr_pop 23 = .ok (.iload 4, 2) := by decide +kernel
theorem nd_Pr_pop_25 : decode nc_Pr_pop 25 = .ok (.iload_n 3, 1) := by decide +kernel
theorem nd_Pr_pop_26 : decode nc_Pr_pop 26 = .ok (.if_icmp .ge 27, 3) := by decide +kernel
theorem nd_Pr_pop_29 : decode nc_Pr_pop 29 = .ok (.aload_n 1, 1) := by decide +kernel
theorem nd_Pr_pop_30 : decode nc_Pr_pop 30 = .ok (.aload_n 1, 1) := by decide +kernel
theorem nd_Pr_pop_31 : decode nc_Pr_pop 31 = .ok (.getfield 64, 3) := by decide +kernel
theorem nd_Pr_pop_34 : decode nc_Pr_pop 34 = .ok (.iconst 4, 1) := by decide +kernel
theorem nd_Pr_pop_35 : decode nc_Pr_pop 35 = .ok (.iload 4, 2) := by decide +kernel
theorem nd_Pr_pop_37 : decode nc_Pr_pop 37 = .ok (.imul, 1) := by decide +kernel
theorem nd_Pr_pop_38 : decode nc_Pr_pop 38 = .ok (.iadd, 1) := by decide +kernel
theorem nd_Pr_pop_39 : decode nc_Pr_pop 39 = .ok (.invokevirtual 103, 3) := by decide +kernel
theorem nd_Pr_pop_42 : decode nc_Pr_pop 42 = .ok (.ifCond .ne 5, 3) := by decide +kernel
