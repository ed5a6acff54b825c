theorem d_La_init_0 : decode b_La_init 0 = .ok (.aload_n 0, 1) := by decide +kernel
theorem d_La_init_1 : decode b_La_init 1 = .ok (.invokespecial 3, 3) := by decide +kernel
theorem d_La_init_4 : decode b_La_init 4 = .ok (.aload_n 0, 1) := by decide +kernel
theorem d_La_init_5 : decode b_La_init 5 = .ok (.new 1, 3) := by decide +kernel
theorem d_La_init_8 : decode b_La_init 8 = .ok (.dup, 1) := by decide +kernel
theorem d_La_init_9 : decode b_La_init 9 = .ok (.invokespecial 9, 3) := by decide +kernel
theorem d_La_init_12 : decode b_La_init 12 = .ok (.putfield 10, 3) := by decide +kernel
theorem d_La_init_15 : decode b_La_init 15 = .ok (.aload_n 0, 1) := by decide +kernel
theorem d_La_init_16 : decode b_La_init 16 = .ok (.new 16, 3) := by decide +kernel
theorem d_La_init_19 : decode b_La_init 19 = .ok (.dup, 1) := by decide +kernel
theorem d_La_init_20 : decode b_La_init 20 = .ok (.invokespecial 18, 3) := by decide +kernel
theorem d_La_init_23 : decode b_La_init 23 = .ok (.putfield 19, 3) := by decide +kernel
theorem d_La_init_26 : decode b_La_init 26 = .ok (.aload_n 0, 1) := by decide +kernel
theorem d_La_init_27 : decode b_La_init 27 = .ok (.iconst 0, 1) := by decide +kernel
theorem d_La_init_28 : decode b_La_init 28 = .ok (.putfield 23, 3) := by decide +kernel
theorem d_La_init_31 : decode b_La_init 31 = .ok (.aload_n 0, 1) := by decide +kernel
theorem d_La_init_32 : decode b_La_init 32 = .ok (.iconst 0, 1) := by decide +kernel
theorem d_La_init_33 : decode b_La_init 33 = .ok (.putfield 27, 3) := by decide +kernel
theorem d_La_init_36 : decode b_La_init 36 = .ok (.aload_n 0, 1) := by decide +kernel
theorem d_La_init_37 : decode b_La_init 37 = .ok (.iconst 0, 1) := by decide +kernel
theorem d_La_init_38 : decode b_La_init 38 = .ok (.putfield 30, 3) := by decide +kernel
theorem d_La_init_41 : decode b_La_init 41 = .ok (.aload_n 0, 1) := by decide +kernel
theorem d_La_init_42 : decode b_La_init 42 = .ok (.iconst 0, 1) := by decide +kernel
theorem d_La_init_43 : decode b_La_init 43 = .ok (.putfield 33, 3) := by decide +kernel
theorem d_La_init_46 : decode b_La_init 46 = .ok (.return_, 1) := by decide +kernel
theorem d_La_parent_0 : decode b_La_parent 0 = .ok (.iload_n 1, 1) := by decide +kernel
theorem d_La_parent_1 : decode b_La_parent 1 = .ok (.iconst 1, 1) := by decide +kernel
theorem d_La_parent_2 : decode b_La_parent 2 = .ok (.if_icmp .lt 18, 3) := by decide +kernel
theorem d_La_parent_5 : decode b_La_parent 5 = .ok (.iload_n 1, 1) := by decide +kernel
theorem d_La_parent_6 : decode b_La_parent 6 = .ok (.iconst 5, 1) := by decide +kernel
theorem d_La_parent_7 : decode b_La_parent 7 = .ok (.if_icmp .ge 13, 3) := by decide +kernel
theorem d_La_parent_10 : decode b_La_parent 10 = .ok (.iload_n 2, 1) := by decide +kernel
theorem d_La_parent_11 : decode b_La_parent 11 = .ok (.iconst (-1), 1) := by decide +kernel
theorem d_La_parent_12 : decode b_La_parent 12 = .ok (.if_icmp .lt 8, 3) := by decide +kernel
theorem d_La_parent_15 : decode b_La_parent 15 = .ok (.iload_n 2, 1) := by decide +kernel
theorem d_La_parent_16 : decode b_La_parent 16 = .ok (.iload_n 1, 1) := by decide +kernel
theorem d_La_parent_17 : decode b_La_parent 17 = .ok (.if_icmp .lt 5, 3) := by decide +kernel
theorem d_La_parent_20 : decode b_La_parent 20 = .ok (.iconst (-1), 1) := by decide +kernel
theorem d_La_parent_21 : decode b_La_parent 21 = .ok (.ireturn, 1) := by decide +kernel
theorem d_La_parent_22 : decode b_La_parent 22 = .ok (.aload_n 0, 1) := by decide +kernel
theorem d_La_parent_23 : decode b_La_parent 23 = .ok (.getfield 10, 3) := by decide +kernel
theorem d_La_parent_26 : decode b_La_parent 26 = .ok (.iload_n 1, 1) := by decide +kernel
theorem d_La_parent_27 : decode b_La_parent 27 = .ok (.iload_n 2, 1) := by decide +kernel
theorem d_La_parent_28 : decode b_La_parent 28 = .ok (.invokevirtual 36, 3) := by decide +kernel
theorem d_La_parent_31 : decode b_La_parent 31 = .ok (.iconst 0, 1) := by decide +kernel
theorem d_La_parent_32 : decode b_La_parent 32 = .ok (.ireturn, 1) := by decide +kernel
theorem d_La_file_0 : decode b_La_file 0 = .ok (.iload_n 1, 1) := by decide +kernel
theorem d_La_file_1 : decode b_La_file 1 = .ok (.iload_n 2, 1) := by decide +kernel
theorem d_La_file_2 : decode b_La_file 2 = .ok (.invokestatic 40, 3) := by decide +kernel
theorem d_La_file_5 : decode b_La_file 5 = .ok (.ifCond .eq 12, 3) := by decide +kernel
theorem d_La_file_8 : decode b_La_file 8 = .ok (.iload_n 3, 1) := by decide +kernel
theorem d_La_file_9 : decode b_La_file 9 = .ok (.iload 4, 2) := by decide +kernel
theorem d_La_file_11 : decode b_La_file 11 = .ok (.invokestatic 44, 3) := by decide +kernel
theorem d_La_file_14 : decode b_La_file 14 = .ok (.ifCond .ne 5, 3) := by decide +kernel
theorem d_La_file_17 : decode b_La_file 17 = .ok (.iconst (-1), 1) := by decide +kernel
theorem d_La_file_18 : decode b_La_file 18 = .ok (.ireturn, 1) := by decide +kernel
theorem d_La_file_19 : decode b_La_file 19 = .ok (.aload_n 0, 1) := by decide +kernel
theorem d_La_file_20 : decode b_La_file 20 = .ok (.getfield 10, 3) := by decide +kernel
theorem d_La_file_23 : decode b_La_file 23 = .ok (.iload_n 1, 1) := by decide +kernel
theorem d_La_file_24 : decode b_La_file 24 = .ok (.iload_n 2, 1) := by decide +kernel
theorem d_La_file_25 : decode b_La_file 25 = .ok (.iload_n 3, 1) := by decide +kernel
theorem d_La_file_26 : decode b_La_file 26 = .ok (.iload 4, 2) := by decide +kernel
theorem d_La_file_28 : decode b_La_file 28 = .ok (.invokevirtual 47, 3) := by decide +kernel
theorem d_La_file_31 : decode b_La_file 31 = .ok (.iconst 0, 1) := by decide +kernel
theorem d_La_file_32 : decode b_La_file 32 = .ok (.ireturn, 1) := by decide +kernel
theorem d_La_noFile_0 : decode b_La_noFile 0 = .ok (.iload_n 1, 1) := by decide +kernel
theorem d_La_noFile_1 : decode b_La_noFile 1 = .ok (.iload_n 2, 1) := by decide +kernel
theorem d_La_noFile_2 : decode b_La_noFile 2 = .ok (.invokestatic 40, 3) := by decide +kernel
theorem d_La_noFile_5 : decode b_La_noFile 5 = .ok (.ifCond .eq 15, 3) := by decide +kernel
theorem d_La_noFile_8 : decode b_La_noFile 8 = .ok (.aload_n 0, 1) := by decide +kernel
theorem d_La_noFile_9 : decode b_La_noFile 9 = .ok (.getfield 10, 3) := by decide +kernel
theorem d_La_noFile_12 : decode b_La_noFile 12 = .ok (.iload_n 1, 1) := by decide +kernel
theorem d_La_noFile_13 : decode b_La_noFile 13 = .ok (.iload_n 2, 1) := by decide +kernel
theorem d_La_noFile_14 : decode b_La_noFile 14 = .ok (.invokevirtual 51, 3) := by decide +kernel
theorem d_La_noFile_17 : decode b_La_noFile 17 = .ok (.ifCond .ne 5, 3) := by decide +kernel
theorem d_La_noFile_20 : decode b_La_noFile 20 = .ok (.iconst (-1), 1) := by decide +kernel
theorem d_La_noFile_21 : decode b_La_noFile 21 = .ok (.ireturn, 1) := by decide +kernel
theorem d_La_noFile_22 : decode b_La_noFile 22 = .ok (.aload_n 0, 1) := by decide +kernel
theorem d_La_noFile_23 : decode b_La_noFile 23 = .ok (.getfield 10, 3) := by decide +kernel
theorem d_La_noFile_26 : decode b_La_noFile 26 = .ok (.iload_n 1, 1) := by decide +kernel
theorem d_La_noFile_27 : decode b_La_noFile 27 = .ok (.iload_n 2, 1) := by decide +kernel
theorem d_La_noFile_28 : decode b_La_noFile 28 = .ok (.invokevirtual 54, 3) := by decide +kernel
theorem d_La_noFile_31 : decode b_La_noFile 31 = .ok (.iconst 0, 1) := by decide +kernel
theorem d_La_noFile_32 : decode b_La_noFile 32 = .ok (.ireturn, 1) := by decide +kernel
theorem d_La_script_0 : decode b_La_script 0 = .ok (.iload_n 1, 1) := by decide +kernel
theorem d_La_script_1 : decode b_La_script 1 = .ok (.iload_n 2, 1) := by decide +kernel
theorem d_La_script_2 : decode b_La_script 2 = .ok (.invokestatic 40, 3) := by decide +kernel
theorem d_La_script_5 : decode b_La_script 5 = .ok (.ifCond .eq 12, 3) := by decide +kernel
theorem d_La_script_8 : decode b_La_script 8 = .ok (.iload_n 3, 1) := by decide +kernel
theorem d_La_script_9 : decode b_La_script 9 = .ok (.iload 4, 2) := by decide +kernel
theorem d_La_script_11 : decode b_La_script 11 = .ok (.invokestatic 57, 3) := by decide +kernel
theorem d_La_script_14 : decode b_La_script 14 = .ok (.ifCond .ne 5, 3) := by decide +kernel
theorem d_La_script_17 : decode b_La_script 17 = .ok (.iconst (-1), 1) := by decide +kernel
theorem d_La_script_18 : decode b_La_script 18 = .ok (.ireturn, 1) := by decide +kernel
theorem d_La_script_19 : decode b_La_script 19 = .ok (.aload_n 0, 1) := by decide +kernel
theorem d_La_script_20 : decode b_La_script 20 = .ok (.getfield 10, 3) := by decide +kernel
theorem d_La_script_23 : decode b_La_script 23 = .ok (.iload_n 1, 1) := by decide +kernel
theorem d_La_script_24 : decode b_La_script 24 = .ok (.iload_n 2, 1) := by decide +kernel
theorem d_La_script_25 : decode b_La_script 25 = .ok (.iload_n 3, 1) := by decide +kernel
theorem d_La_script_26 : decode b_La_script 26 = .ok (.iload 4, 2) := by decide +kernel
theorem d_La_script_28 : decode b_La_script 28 = .ok (.invokevirtual 60, 3) := by decide +kernel
theorem d_La_script_31 : decode b_La_script 31 = .ok (.iconst 0, 1) := by decide +kernel
theorem d_La_script_32 : decode b_La_script 32 = .ok (.ireturn, 1) := by decide +kernel
theorem d_La_load_0 : decode b_La_load 0 = .ok (.iload_n 1, 1) := by decide +kernel
theorem d_La_load_1 : decode b_La_load 1 = .ok (.iload_n 2, 1) := by decide +kernel
theorem d_La_load_2 : decode b_La_load 2 = .ok (.invokestatic 40, 3) := by decide +kernel
theorem d_La_load_5 : decode b_La_load 5 = .ok (.ifCond .ne 5, 3) := by decide +kernel
theorem d_La_load_8 : decode b_La_load 8 = .ok (.iconst (-1), 1) := by decide +kernel
theorem d_La_load_9 : decode b_La_load 9 = .ok (.ireturn, 1) := by decide +kernel
theorem d_La_load_10 : decode b_La_load 10 = .ok (.aload_n 0, 1) := by decide +kernel
theorem d_La_load_11 : decode b_La_load 11 = .ok (.iconst 0, 1) := by decide +kernel
theorem d_La_load_12 : decode b_La_load 12 = .ok (.putfield 23, 3) := by decide +kernel
theorem d_La_load_15 : decode b_La_load 15 = .ok (.aload_n 0, 1) := by decide +kernel
theorem d_La_load_16 : decode b_La_load 16 = .ok (.iload_n 1, 1) := by decide +kernel
theorem d_La_load_17 : decode b_La_load 17 = .ok (.iload_n 2, 1) := by decide +kernel
theorem d_La_load_18 : decode b_La_load 18 = .ok (.iconst 0, 1) := by decide +kernel
theorem d_La_load_19 : decode b_La_load 19 = .ok (.invokevirtual 63, 3) := by decide +kernel
theorem d_La_load_22 : decode b_La_load 22 = .ok (.istore_n 3, 1) := by decide +kernel
theorem d_La_load_23 : decode b_La_load 23 = .ok (.aload_n 0, 1) := by decide +kernel
theorem d_La_load_24 : decode b_La_load 24 = .ok (.iload_n 3, 1) := by decide +kernel
theorem d_La_load_25 : decode b_La_load 25 = .ok (.aload_n 0, 1) := by decide +kernel
theorem d_La_load_26 : decode b_La_load 26 = .ok (.getfield 27, 3) := by decide +kernel
theorem d_La_load_29 : decode b_La_load 29 = .ok (.invokevirtual 67, 3) := by decide +kernel
theorem d_La_load_32 : decode b_La_load 32 = .ok (.ireturn, 1) := by decide +kernel
theorem d_La_refer_0 : decode b_La_refer 0 = .ok (.aload_n 0, 1) := by decide +kernel
theorem d_La_refer_1 : decode b_La_refer 1 = .ok (.getfield 19, 3) := by decide +kernel
theorem d_La_refer_4 : decode b_La_refer 4 = .ok (.iload_n 1, 1) := by decide +kernel
theorem d_La_refer_5 : decode b_La_refer 5 = .ok (.iload_n 2, 1) := by decide +kernel
theorem d_La_refer_6 : decode b_La_refer 6 = .ok (.invokevirtual 71, 3) := by decide +kernel
theorem d_La_refer_9 : decode b_La_refer 9 = .ok (.ifCond .eq 22, 3) := by decide +kernel
theorem d_La_refer_12 : decode b_La_refer 12 = .ok (.iload_n 3, 1) := by decide +kernel
theorem d_La_refer_13 : decode b_La_refer 13 = .ok (.invokestatic 74, 3) := by decide +kernel
theorem d_La_refer_16 : decode b_La_refer 16 = .ok (.ifCond .eq 15, 3) := by decide +kernel
theorem d_La_refer_19 : decode b_La_refer 19 = .ok (.aload_n 0, 1) := by decide +kernel
theorem d_La_refer_20 : decode b_La_refer 20 = .ok (.getfield 19, 3) := by decide +kernel
theorem d_La_refer_23 : decode b_La_refer 23 = .ok (.iload_n 1, 1) := by decide +kernel
theorem d_La_refer_24 : decode b_La_refer 24 = .ok (.iload_n 2, 1) := by decide +kernel
theorem d_La_refer_25 : decode b_La_refer 25 = .ok (.invokevirtual 78, 3) := by decide +kernel
theorem d_La_refer_28 : decode b_La_refer 28 = .ok (.ifCond .eq 5, 3) := by decide +kernel
theorem d_La_refer_31 : decode b_La_refer 31 = .ok (.iconst (-1), 1) := by decide +kernel
theorem d_La_refer_32 : decode b_La_refer 32 = .ok (.ireturn, 1) := by decide +kernel
theorem d_La_refer_33 : decode b_La_refer 33 = .ok (.aload_n 0, 1) := by decide +kernel
theorem d_La_refer_34 : decode b_La_refer 34 = .ok (.getfield 19, 3) := by decide +kernel
theorem d_La_refer_37 : decode b_La_refer 37 = .ok (.iload_n 1, 1) := by decide +kernel
theorem d_La_refer_38 : decode b_La_refer 38 = .ok (.iload_n 2, 1) := by decide +kernel
theorem d_La_refer_39 : decode b_La_refer 39 = .ok (.iload_n 3, 1) := by decide +kernel
theorem d_La_refer_40 : decode b_La_refer 40 = .ok (.invokevirtual 81, 3) := by decide +kernel
theorem d_La_refer_43 : decode b_La_refer 43 = .ok (.iconst 0, 1) := by decide +kernel
theorem d_La_refer_44 : decode b_La_refer 44 = .ok (.ireturn, 1) := by decide +kernel
theorem d_La_resolve_0 : decode b_La_resolve 0 = .ok (.aload_n 0, 1) := by decide +kernel
theorem d_La_resolve_1 : decode b_La_resolve 1 = .ok (.getfield 19, 3) := by decide +kernel
theorem d_La_resolve_4 : decode b_La_resolve 4 = .ok (.iload_n 1, 1) := by decide +kernel
theorem d_La_resolve_5 : decode b_La_resolve 5 = .ok (.iload_n 2, 1) := by decide +kernel
theorem d_La_resolve_6 : decode b_La_resolve 6 = .ok (.invokevirtual 71, 3) := by decide +kernel
theorem d_La_resolve_9 : decode b_La_resolve 9 = .ok (.ifCond .eq 15, 3) := by decide +kernel
theorem d_La_resolve_12 : decode b_La_resolve 12 = .ok (.aload_n 0, 1) := by decide +kernel
theorem d_La_resolve_13 : decode b_La_resolve 13 = .ok (.getfield 19, 3) := by decide +kernel
theorem d_La_resolve_16 : decode b_La_resolve 16 = .ok (.iload_n 1, 1) := by decide +kernel
theorem d_La_resolve_17 : decode b_La_resolve 17 = .ok (.iload_n 2, 1) := by decide +kernel
theorem d_La_resolve_18 : decode b_La_resolve 18 = .ok (.invokevirtual 85, 3) := by decide +kernel
theorem d_La_resolve_21 : decode b_La_resolve 21 = .ok (.ifCond .ne 5, 3) := by decide +kernel
theorem d_La_resolve_24 : decode b_La_resolve 24 = .ok (.iconst (-1), 1) := by decide +kernel
theorem d_La_resolve_25 : decode b_La_resolve 25 = .ok (.ireturn, 1) := by decide +kernel
theorem d_La_resolve_26 : decode b_La_resolve 26 = .ok (.aload_n 0, 1) := by decide +kernel
theorem d_La_resolve_27 : decode b_La_resolve 27 = .ok (.iconst 0, 1) := by decide +kernel
theorem d_La_resolve_28 : decode b_La_resolve 28 = .ok (.putfield 23, 3) := by decide +kernel
theorem d_La_resolve_31 : decode b_La_resolve 31 = .ok (.aload_n 0, 1) := by decide +kernel
theorem d_La_resolve_32 : decode b_La_resolve 32 = .ok (.getfield 19, 3) := by decide +kernel
theorem d_La_resolve_35 : decode b_La_resolve 35 = .ok (.iload_n 1, 1) := by decide +kernel
theorem d_La_resolve_36 : decode b_La_resolve 36 = .ok (.iload_n 2, 1) := by decide +kernel
theorem d_La_resolve_37 : decode b_La_resolve 37 = .ok (.invokevirtual 78, 3) := by decide +kernel
theorem d_La_resolve_40 : decode b_La_resolve 40 = .ok (.ifCond .ne 40, 3) := by decide +kernel
theorem d_La_resolve_43 : decode b_La_resolve 43 = .ok (.aload_n 0, 1) := by decide +kernel
theorem d_La_resolve_44 : decode b_La_resolve 44 = .ok (.aload_n 0, 1) := by decide +kernel
theorem d_La_resolve_45 : decode b_La_resolve 45 = .ok (.getfield 19, 3) := by decide +kernel
theorem d_La_resolve_48 : decode b_La_resolve 48 = .ok (.iload_n 1, 1) := by decide +kernel
theorem d_La_resolve_49 : decode b_La_resolve 49 = .ok (.invokevirtual 88, 3) := by decide +kernel
theorem d_La_resolve_52 : decode b_La_resolve 52 = .ok (.aload_n 0, 1) := by decide +kernel
theorem d_La_resolve_53 : decode b_La_resolve 53 = .ok (.getfield 19, 3) := by decide +kernel
theorem d_La_resolve_56 : decode b_La_resolve 56 = .ok (.iload_n 1, 1) := by decide +kernel
theorem d_La_resolve_57 : decode b_La_resolve 57 = .ok (.iload_n 2, 1) := by decide +kernel
theorem d_La_resolve_58 : decode b_La_resolve 58 = .ok (.invokevirtual 92, 3) := by decide +kernel
theorem d_La_resolve_61 : decode b_La_resolve 61 = .ok (.iconst 0, 1) := by decide +kernel
theorem d_La_resolve_62 : decode b_La_resolve 62 = .ok (.invokevirtual 95, 3) := by decide +kernel
theorem d_La_resolve_65 : decode b_La_resolve 65 = .ok (.istore_n 3, 1) := by decide +kernel
theorem d_La_resolve_66 : decode b_La_resolve 66 = .ok (.aload_n 0, 1) := by decide +kernel
theorem d_La_resolve_67 : decode b_La_resolve 67 = .ok (.getfield 19, 3) := by decide +kernel
theorem d_La_resolve_70 : decode b_La_resolve 70 = .ok (.iload_n 1, 1) := by decide +kernel
theorem d_La_resolve_71 : decode b_La_resolve 71 = .ok (.iload_n 2, 1) := by decide +kernel
theorem d_La_resolve_72 : decode b_La_resolve 72 = .ok (.iload_n 3, 1) := by decide +kernel
theorem d_La_resolve_73 : decode b_La_resolve 73 = .ok (.aload_n 0, 1) := by decide +kernel
theorem d_La_resolve_74 : decode b_La_resolve 74 = .ok (.getfield 27, 3) := by decide +kernel
theorem d_La_resolve_77 : decode b_La_resolve 77 = .ok (.invokevirtual 98, 3) := by decide +kernel
theorem d_La_resolve_80 : decode b_La_resolve 80 = .ok (.aload_n 0, 1) := by decide +kernel
theorem d_La_resolve_81 : decode b_La_resolve 81 = .ok (.aload_n 0, 1) := by decide +kernel
theorem d_La_resolve_82 : decode b_La_resolve 82 = .ok (.getfield 19, 3) := by decide +kernel
theorem d_La_resolve_85 : decode b_La_resolve 85 = .ok (.iload_n 1, 1) := by decide +kernel
theorem d_La_resolve_86 : decode b_La_resolve 86 = .ok (.iload_n 2, 1) := by decide +kernel
theorem d_La_resolve_87 : decode b_La_resolve 87 = .ok (.invokevirtual 78, 3) := by decide +kernel
theorem d_La_resolve_90 : decode b_La_resolve 90 = .ok (.aload_n 0, 1) := by decide +kernel
theorem d_La_resolve_91 : decode b_La_resolve 91 = .ok (.getfield 19, 3) := by decide +kernel
theorem d_La_resolve_94 : decode b_La_resolve 94 = .ok (.iload_n 1, 1) := by decide +kernel
theorem d_La_resolve_95 : decode b_La_resolve 95 = .ok (.iload_n 2, 1) := by decide +kernel
theorem d_La_resolve_96 : decode b_La_resolve 96 = .ok (.invokevirtual 101, 3) := by decide +kernel
theorem d_La_resolve_99 : decode b_La_resolve 99 = .ok (.invokevirtual 67, 3) := by decide +kernel
theorem d_La_resolve_102 : decode b_La_resolve 102 = .ok (.ireturn, 1) := by decide +kernel
theorem d_La_constrain_0 : decode b_La_constrain 0 = .ok (.iload_n 1, 1) := by decide +kernel
theorem d_La_constrain_1 : decode b_La_constrain 1 = .ok (.iload_n 3, 1) := by decide +kernel
theorem d_La_constrain_2 : decode b_La_constrain 2 = .ok (.invokestatic 40, 3) := by decide +kernel
theorem d_La_constrain_5 : decode b_La_constrain 5 = .ok (.ifCond .eq 11, 3) := by decide +kernel
theorem d_La_constrain_8 : decode b_La_constrain 8 = .ok (.iload_n 2, 1) := by decide +kernel
theorem d_La_constrain_9 : decode b_La_constrain 9 = .ok (.iload_n 3, 1) := by decide +kernel
theorem d_La_constrain_10 : decode b_La_constrain 10 = .ok (.invokestatic 40, 3) := by decide +kernel
theorem d_La_constrain_13 : decode b_La_constrain 13 = .ok (.ifCond .ne 5, 3) := by decide +kernel
theorem d_La_constrain_16 : decode b_La_constrain 16 = .ok (.iconst (-1), 1) := by decide +kernel
theorem d_La_constrain_17 : decode b_La_constrain 17 = .ok (.ireturn, 1) := by decide +kernel
theorem d_La_constrain_18 : decode b_La_constrain 18 = .ok (.aload_n 0, 1) := by decide +kernel
theorem d_La_constrain_19 : decode b_La_constrain 19 = .ok (.getfield 10, 3) := by decide +kernel
theorem d_La_constrain_22 : decode b_La_constrain 22 = .ok (.iload_n 1, 1) := by decide +kernel
theorem d_La_constrain_23 : decode b_La_constrain 23 = .ok (.iload_n 2, 1) := by decide +kernel
theorem d_La_constrain_24 : decode b_La_constrain 24 = .ok (.iload_n 3, 1) := by decide +kernel
theorem d_La_constrain_25 : decode b_La_constrain 25 = .ok (.invokevirtual 104, 3) := by decide +kernel
theorem d_La_constrain_28 : decode b_La_constrain 28 = .ok (.ifCond .eq 7, 3) := by decide +kernel
theorem d_La_constrain_31 : decode b_La_constrain 31 = .ok (.iconst 0, 1) := by decide +kernel
theorem d_La_constrain_32 : decode b_La_constrain 32 = .ok (.goto 5, 3) := by decide +kernel
theorem d_La_constrain_35 : decode b_La_constrain 35 = .ok (.bipush (-9), 2) := by decide +kernel
theorem d_La_constrain_37 : decode b_La_constrain 37 = .ok (.ireturn, 1) := by decide +kernel
theorem d_La_agree_0 : decode b_La_agree 0 = .ok (.iload_n 1, 1) := by decide +kernel
theorem d_La_agree_1 : decode b_La_agree 1 = .ok (.iload_n 3, 1) := by decide +kernel
theorem d_La_agree_2 : decode b_La_agree 2 = .ok (.invokestatic 40, 3) := by decide +kernel
theorem d_La_agree_5 : decode b_La_agree 5 = .ok (.ifCond .eq 28, 3) := by decide +kernel
theorem d_La_agree_8 : decode b_La_agree 8 = .ok (.iload_n 2, 1) := by decide +kernel
theorem d_La_agree_9 : decode b_La_agree 9 = .ok (.iload_n 3, 1) := by decide +kernel
theorem d_La_agree_10 : decode b_La_agree 10 = .ok (.invokestatic 40, 3) := by decide +kernel
theorem d_La_agree_13 : decode b_La_agree 13 = .ok (.ifCond .eq 20, 3) := by decide +kernel
theorem d_La_agree_16 : decode b_La_agree 16 = .ok (.aload_n 0, 1) := by decide +kernel
theorem d_La_agree_17 : decode b_La_agree 17 = .ok (.getfield 10, 3) := by decide +kernel
theorem d_La_agree_20 : decode b_La_agree 20 = .ok (.iload_n 1, 1) := by decide +kernel
theorem d_La_agree_21 : decode b_La_agree 21 = .ok (.iload_n 2, 1) := by decide +kernel
theorem d_La_agree_22 : decode b_La_agree 22 = .ok (.iload_n 3, 1) := by decide +kernel
theorem d_La_agree_23 : decode b_La_agree 23 = .ok (.invokevirtual 108, 3) := by decide +kernel
theorem d_La_agree_26 : decode b_La_agree 26 = .ok (.ifCond .eq 7, 3) := by decide +kernel
theorem d_La_agree_29 : decode b_La_agree 29 = .ok (.iconst 1, 1) := by decide +kernel
theorem d_La_agree_30 : decode b_La_agree 30 = .ok (.goto 4, 3) := by decide +kernel
theorem d_La_agree_33 : decode b_La_agree 33 = .ok (.iconst 0, 1) := by decide +kernel
theorem d_La_agree_34 : decode b_La_agree 34 = .ok (.ireturn, 1) := by decide +kernel
theorem d_La_cause_0 : decode b_La_cause 0 = .ok (.iload_n 1, 1) := by decide +kernel
theorem d_La_cause_1 : decode b_La_cause 1 = .ok (.ifCond .ne 10, 3) := by decide +kernel
theorem d_La_cause_4 : decode b_La_cause 4 = .ok (.aload_n 0, 1) := by decide +kernel
theorem d_La_cause_5 : decode b_La_cause 5 = .ok (.getfield 30, 3) := by decide +kernel
theorem d_La_cause_8 : decode b_La_cause 8 = .ok (.goto 16, 3) := by decide +kernel
theorem d_La_cause_11 : decode b_La_cause 11 = .ok (.iload_n 1, 1) := by decide +kernel
theorem d_La_cause_12 : decode b_La_cause 12 = .ok (.iconst 1, 1) := by decide +kernel
theorem d_La_cause_13 : decode b_La_cause 13 = .ok (.if_icmp .ne 10, 3) := by decide +kernel
theorem d_La_cause_16 : decode b_La_cause 16 = .ok (.aload_n 0, 1) := by decide +kernel
theorem d_La_cause_17 : decode b_La_cause 17 = .ok (.getfield 33, 3) := by decide +kernel
theorem d_La_cause_20 : decode b_La_cause 20 = .ok (.goto 4, 3) := by decide +kernel
theorem d_La_cause_23 : decode b_La_cause 23 = .ok (.iconst 0, 1) := by decide +kernel
theorem d_La_cause_24 : decode b_La_cause 24 = .ok (.istore_n 2, 1) := by decide +kernel
theorem d_La_cause_25 : decode b_La_cause 25 = .ok (.iload_n 2, 1) := by decide +kernel
theorem d_La_cause_26 : decode b_La_cause 26 = .ok (.ifCond .ne 7, 3) := by decide +kernel
theorem d_La_cause_29 : decode b_La_cause 29 = .ok (.iconst (-1), 1) := by decide +kernel
theorem d_La_cause_30 : decode b_La_cause 30 = .ok (.goto 4, 3) := by decide +kernel
theorem d_La_cause_33 : decode b_La_cause 33 = .ok (.iload_n 2, 1) := by decide +kernel
theorem d_La_cause_34 : decode b_La_cause 34 = .ok (.ireturn, 1) := by decide +kernel
theorem d_La_requests_0 : decode b_La_requests 0 = .ok (.aload_n 0, 1) := by decide +kernel
theorem d_La_requests_1 : decode b_La_requests 1 = .ok (.getfield 23, 3) := by decide +kernel
theorem d_La_requests_4 : decode b_La_requests 4 = .ok (.ireturn, 1) := by decide +kernel
theorem d_La_recorded_0 : decode b_La_recorded 0 = .ok (.iload_n 1, 1) := by decide +kernel
theorem d_La_recorded_1 : decode b_La_recorded 1 = .ok (.iload_n 2, 1) := by decide +kernel
theorem d_La_recorded_2 : decode b_La_recorded 2 = .ok (.invokestatic 40, 3) := by decide +kernel
theorem d_La_recorded_5 : decode b_La_recorded 5 = .ok (.ifCond .eq 15, 3) := by decide +kernel
theorem d_La_recorded_8 : decode b_La_recorded 8 = .ok (.aload_n 0, 1) := by decide +kernel
theorem d_La_recorded_9 : decode b_La_recorded 9 = .ok (.getfield 10, 3) := by decide +kernel
theorem d_La_recorded_12 : decode b_La_recorded 12 = .ok (.iload_n 1, 1) := by decide +kernel
theorem d_La_recorded_13 : decode b_La_recorded 13 = .ok (.iload_n 2, 1) := by decide +kernel
theorem d_La_recorded_14 : decode b_La_recorded 14 = .ok (.invokevirtual 111, 3) := by decide +kernel
theorem d_La_recorded_17 : decode b_La_recorded 17 = .ok (.goto 4, 3) := by decide +kernel
theorem d_La_recorded_20 : decode b_La_recorded 20 = .ok (.iconst (-1), 1) := by decide +kernel
theorem d_La_recorded_21 : decode b_La_recorded 21 = .ok (.ireturn, 1) := by decide +kernel
theorem d_La_of_0 : decode b_La_of 0 = .ok (.aload_n 0, 1) := by decide +kernel
theorem d_La_of_1 : decode b_La_of 1 = .ok (.getfield 19, 3) := by decide +kernel
theorem d_La_of_4 : decode b_La_of 4 = .ok (.iload_n 1, 1) := by decide +kernel
theorem d_La_of_5 : decode b_La_of 5 = .ok (.invokevirtual 114, 3) := by decide +kernel
theorem d_La_of_8 : decode b_La_of 8 = .ok (.ifCond .ne 5, 3) := by decide +kernel
theorem d_La_of_11 : decode b_La_of 11 = .ok (.iconst (-1), 1) := by decide +kernel
theorem d_La_of_12 : decode b_La_of 12 = .ok (.ireturn, 1) := by decide +kernel
theorem d_La_of_13 : decode b_La_of 13 = .ok (.iload_n 2, 1) := by decide +kernel
theorem d_La_of_14 : decode b_La_of 14 = .ok (.tableswitch 107 0 8 #[50, 59, 68, 77, 86, 95, 95, 95, 95], 50) := by decide +kernel
theorem d_La_of_64 : decode b_La_of 64 = .ok (.aload_n 0, 1) := by decide +kernel
theorem d_La_of_65 : decode b_La_of 65 = .ok (.getfield 19, 3) := by decide +kernel
theorem d_La_of_68 : decode b_La_of 68 = .ok (.iload_n 1, 1) := by decide +kernel
theorem d_La_of_69 : decode b_La_of 69 = .ok (.invokevirtual 117, 3) := by decide +kernel
theorem d_La_of_72 : decode b_La_of 72 = .ok (.ireturn, 1) := by decide +kernel
theorem d_La_of_73 : decode b_La_of 73 = .ok (.aload_n 0, 1) := by decide +kernel
theorem d_La_of_74 : decode b_La_of 74 = .ok (.getfield 19, 3) := by decide +kernel
theorem d_La_of_77 : decode b_La_of 77 = .ok (.iload_n 1, 1) := by decide +kernel
theorem d_La_of_78 : decode b_La_of 78 = .ok (.invokevirtual 88, 3) := by decide +kernel
theorem d_La_of_81 : decode b_La_of 81 = .ok (.ireturn, 1) := by decide +kernel
theorem d_La_of_82 : decode b_La_of 82 = .ok (.aload_n 0, 1) := by decide +kernel
theorem d_La_of_83 : decode b_La_of 83 = .ok (.getfield 19, 3) := by decide +kernel
theorem d_La_of_86 : decode b_La_of 86 = .ok (.iload_n 1, 1) := by decide +kernel
theorem d_La_of_87 : decode b_La_of 87 = .ok (.invokevirtual 120, 3) := by decide +kernel
theorem d_La_of_90 : decode b_La_of 90 = .ok (.ireturn, 1) := by decide +kernel
theorem d_La_of_91 : decode b_La_of 91 = .ok (.aload_n 0, 1) := by decide +kernel
theorem d_La_of_92 : decode b_La_of 92 = .ok (.getfield 19, 3) := by decide +kernel
theorem d_La_of_95 : decode b_La_of 95 = .ok (.iload_n 1, 1) := by decide +kernel
theorem d_La_of_96 : decode b_La_of 96 = .ok (.invokevirtual 123, 3) := by decide +kernel
theorem d_La_of_99 : decode b_La_of 99 = .ok (.ireturn, 1) := by decide +kernel
theorem d_La_of_100 : decode b_La_of 100 = .ok (.aload_n 0, 1) := by decide +kernel
theorem d_La_of_101 : decode b_La_of 101 = .ok (.getfield 19, 3) := by decide +kernel
theorem d_La_of_104 : decode b_La_of 104 = .ok (.iload_n 1, 1) := by decide +kernel
theorem d_La_of_105 : decode b_La_of 105 = .ok (.invokevirtual 126, 3) := by decide +kernel
theorem d_La_of_108 : decode b_La_of 108 = .ok (.ireturn, 1) := by decide +kernel
theorem d_La_of_109 : decode b_La_of 109 = .ok (.aload_n 0, 1) := by decide +kernel
theorem d_La_of_110 : decode b_La_of 110 = .ok (.getfield 19, 3) := by decide +kernel
theorem d_La_of_113 : decode b_La_of 113 = .ok (.iload_n 1, 1) := by decide +kernel
theorem d_La_of_114 : decode b_La_of 114 = .ok (.iload_n 2, 1) := by decide +kernel
theorem d_La_of_115 : decode b_La_of 115 = .ok (.iconst 5, 1) := by decide +kernel
theorem d_La_of_116 : decode b_La_of 116 = .ok (.isub, 1) := by decide +kernel
theorem d_La_of_117 : decode b_La_of 117 = .ok (.invokevirtual 78, 3) := by decide +kernel
theorem d_La_of_120 : decode b_La_of 120 = .ok (.ireturn, 1) := by decide +kernel
theorem d_La_of_121 : decode b_La_of 121 = .ok (.iconst (-1), 1) := by decide +kernel
theorem d_La_of_122 : decode b_La_of 122 = .ok (.ireturn, 1) := by decide +kernel
theorem d_La_isA_0 : decode b_La_isA 0 = .ok (.aload_n 0, 1) := by decide +kernel
theorem d_La_isA_1 : decode b_La_isA 1 = .ok (.getfield 19, 3) := by decide +kernel
theorem d_La_isA_4 : decode b_La_isA 4 = .ok (.iload_n 1, 1) := by decide +kernel
theorem d_La_isA_5 : decode b_La_isA 5 = .ok (.invokevirtual 114, 3) := by decide +kernel
theorem d_La_isA_8 : decode b_La_isA 8 = .ok (.ifCond .eq 30, 3) := by decide +kernel
theorem d_La_isA_11 : decode b_La_isA 11 = .ok (.aload_n 0, 1) := by decide +kernel
theorem d_La_isA_12 : decode b_La_isA 12 = .ok (.getfield 19, 3) := by decide +kernel
theorem d_La_isA_15 : decode b_La_isA 15 = .ok (.iload_n 2, 1) := by decide +kernel
theorem d_La_isA_16 : decode b_La_isA 16 = .ok (.invokevirtual 114, 3) := by decide +kernel
theorem d_La_isA_19 : decode b_La_isA 19 = .ok (.ifCond .eq 19, 3) := by decide +kernel
theorem d_La_isA_22 : decode b_La_isA 22 = .ok (.aload_n 0, 1) := by decide +kernel
theorem d_La_isA_23 : decode b_La_isA 23 = .ok (.getfield 19, 3) := by decide +kernel
theorem d_La_isA_26 : decode b_La_isA 26 = .ok (.iload_n 1, 1) := by decide +kernel
theorem d_La_isA_27 : decode b_La_isA 27 = .ok (.iload_n 2, 1) := by decide +kernel
theorem d_La_isA_28 : decode b_La_isA 28 = .ok (.invokevirtual 129, 3) := by decide +kernel
theorem d_La_isA_31 : decode b_La_isA 31 = .ok (.ifCond .eq 7, 3) := by decide +kernel
theorem d_La_isA_34 : decode b_La_isA 34 = .ok (.iconst 1, 1) := by decide +kernel
theorem d_La_isA_35 : decode b_La_isA 35 = .ok (.goto 4, 3) := by decide +kernel
theorem d_La_isA_38 : decode b_La_isA 38 = .ok (.iconst 0, 1) := by decide +kernel
theorem d_La_isA_39 : decode b_La_isA 39 = .ok (.ireturn, 1) := by decide +kernel
theorem d_La_count_0 : decode b_La_count 0 = .ok (.iload_n 1, 1) := by decide +kernel
theorem d_La_count_1 : decode b_La_count 1 = .ok (.tableswitch 63 0 3 #[31, 39, 47, 55], 31) := by decide +kernel
theorem d_La_count_32 : decode b_La_count 32 = .ok (.aload_n 0, 1) := by decide +kernel
theorem d_La_count_33 : decode b_La_count 33 = .ok (.getfield 19, 3) := by decide +kernel
theorem d_La_count_36 : decode b_La_count 36 = .ok (.invokevirtual 132, 3) := by decide +kernel
theorem d_La_count_39 : decode b_La_count 39 = .ok (.ireturn, 1) := by decide +kernel
theorem d_La_count_40 : decode b_La_count 40 = .ok (.aload_n 0, 1) := by decide +kernel
theorem d_La_count_41 : decode b_La_count 41 = .ok (.getfield 10, 3) := by decide +kernel
theorem d_La_count_44 : decode b_La_count 44 = .ok (.invokevirtual 136, 3) := by decide +kernel
theorem d_La_count_47 : decode b_La_count 47 = .ok (.ireturn, 1) := by decide +kernel
theorem d_La_count_48 : decode b_La_count 48 = .ok (.aload_n 0, 1) := by decide +kernel
theorem d_La_count_49 : decode b_La_count 49 = .ok (.getfield 10, 3) := by decide +kernel
theorem d_La_count_52 : decode b_La_count 52 = .ok (.invokevirtual 139, 3) := by decide +kernel
theorem d_La_count_55 : decode b_La_count 55 = .ok (.ireturn, 1) := by decide +kernel
theorem d_La_count_56 : decode b_La_count 56 = .ok (.aload_n 0, 1) := by decide +kernel
theorem d_La_count_57 : decode b_La_count 57 = .ok (.getfield 10, 3) := by decide +kernel
theorem d_La_count_60 : decode b_La_count 60 = .ok (.invokevirtual 142, 3) := by decide +kernel
theorem d_La_count_63 : decode b_La_count 63 = .ok (.ireturn, 1) := by decide +kernel
theorem d_La_count_64 : decode b_La_count 64 = .ok (.iconst (-1), 1) := by decide +kernel
theorem d_La_count_65 : decode b_La_count 65 = .ok (.ireturn, 1) := by decide +kernel
theorem d_La_isWay_0 : decode b_La_isWay 0 = .ok (.iload_n 0, 1) := by decide +kernel
theorem d_La_isWay_1 : decode b_La_isWay 1 = .ok (.tableswitch 45 2 6 #[35, 40, 45, 45, 40], 35) := by decide +kernel
theorem d_La_isWay_36 : decode b_La_isWay 36 = .ok (.iload_n 1, 1) := by decide +kernel
theorem d_La_isWay_37 : decode b_La_isWay 37 = .ok (.invokestatic 145, 3) := by decide +kernel
theorem d_La_isWay_40 : decode b_La_isWay 40 = .ok (.ireturn, 1) := by decide +kernel
theorem d_La_isWay_41 : decode b_La_isWay 41 = .ok (.iload_n 1, 1) := by decide +kernel
theorem d_La_isWay_42 : decode b_La_isWay 42 = .ok (.invokestatic 74, 3) := by decide +kernel
theorem d_La_isWay_45 : decode b_La_isWay 45 = .ok (.ireturn, 1) := by decide +kernel
theorem d_La_isWay_46 : decode b_La_isWay 46 = .ok (.iload_n 0, 1) := by decide +kernel
theorem d_La_isWay_47 : decode b_La_isWay 47 = .ok (.ifCond .lt 13, 3) := by decide +kernel
theorem d_La_isWay_50 : decode b_La_isWay 50 = .ok (.iload_n 0, 1) := by decide +kernel
theorem d_La_isWay_51 : decode b_La_isWay 51 = .ok (.bipush 6, 2) := by decide +kernel
theorem d_La_isWay_53 : decode b_La_isWay 53 = .ok (.if_icmp .gt 7, 3) := by decide +kernel
theorem d_La_isWay_56 : decode b_La_isWay 56 = .ok (.iconst 1, 1) := by decide +kernel
theorem d_La_isWay_57 : decode b_La_isWay 57 = .ok (.goto 4, 3) := by decide +kernel
theorem d_La_isWay_60 : decode b_La_isWay 60 = .ok (.iconst 0, 1) := by decide +kernel
theorem d_La_isWay_61 : decode b_La_isWay 61 = .ok (.ireturn, 1) := by decide +kernel
theorem d_La_endWith_0 : decode b_La_endWith 0 = .ok (.aload_n 0, 1) := by decide +kernel
theorem d_La_endWith_1 : decode b_La_endWith 1 = .ok (.iload_n 1, 1) := by decide +kernel
theorem d_La_endWith_2 : decode b_La_endWith 2 = .ok (.ifCond .ge 7, 3) := by decide +kernel
theorem d_La_endWith_5 : decode b_La_endWith 5 = .ok (.iload_n 1, 1) := by decide +kernel
theorem d_La_endWith_6 : decode b_La_endWith 6 = .ok (.goto 4, 3) := by decide +kernel
theorem d_La_endWith_9 : decode b_La_endWith 9 = .ok (.iconst 0, 1) := by decide +kernel
theorem d_La_endWith_10 : decode b_La_endWith 10 = .ok (.putfield 30, 3) := by decide +kernel
theorem d_La_endWith_13 : decode b_La_endWith 13 = .ok (.aload_n 0, 1) := by decide +kernel
theorem d_La_endWith_14 : decode b_La_endWith 14 = .ok (.iload_n 1, 1) := by decide +kernel
theorem d_La_endWith_15 : decode b_La_endWith 15 = .ok (.ifCond .ge 7, 3) := by decide +kernel
theorem d_La_endWith_18 : decode b_La_endWith 18 = .ok (.iload_n 2, 1) := by decide +kernel
theorem d_La_endWith_19 : decode b_La_endWith 19 = .ok (.goto 4, 3) := by decide +kernel
theorem d_La_endWith_22 : decode b_La_endWith 22 = .ok (.iconst 0, 1) := by decide +kernel
theorem d_La_endWith_23 : decode b_La_endWith 23 = .ok (.putfield 33, 3) := by decide +kernel
theorem d_La_endWith_26 : decode b_La_endWith 26 = .ok (.iload_n 1, 1) := by decide +kernel
theorem d_La_endWith_27 : decode b_La_endWith 27 = .ok (.ireturn, 1) := by decide +kernel
theorem d_La_fail_0 : decode b_La_fail 0 = .ok (.aload_n 0, 1) := by decide +kernel
theorem d_La_fail_1 : decode b_La_fail 1 = .ok (.iload_n 1, 1) := by decide +kernel
theorem d_La_fail_2 : decode b_La_fail 2 = .ok (.iconst 0, 1) := by decide +kernel
theorem d_La_fail_3 : decode b_La_fail 3 = .ok (.invokevirtual 148, 3) := by decide +kernel
theorem d_La_fail_6 : decode b_La_fail 6 = .ok (.ireturn, 1) := by decide +kernel
theorem d_La_failBecause_0 : decode b_La_failBecause 0 = .ok (.aload_n 0, 1) := by decide +kernel
theorem d_La_failBecause_1 : decode b_La_failBecause 1 = .ok (.iload_n 2, 1) := by decide +kernel
theorem d_La_failBecause_2 : decode b_La_failBecause 2 = .ok (.putfield 27, 3) := by decide +kernel
theorem d_La_failBecause_5 : decode b_La_failBecause 5 = .ok (.iload_n 1, 1) := by decide +kernel
theorem d_La_failBecause_6 : decode b_La_failBecause 6 = .ok (.ireturn, 1) := by decide +kernel
theorem d_La_request_0 : decode b_La_request 0 = .ok (.aload_n 0, 1) := by decide +kernel
theorem d_La_request_1 : decode b_La_request 1 = .ok (.dup, 1) := by decide +kernel
theorem d_La_request_2 : decode b_La_request 2 = .ok (.getfield 23, 3) := by decide +kernel
theorem d_La_request_5 : decode b_La_request 5 = .ok (.iconst 1, 1) := by decide +kernel
theorem d_La_request_6 : decode b_La_request 6 = .ok (.iadd, 1) := by decide +kernel
theorem d_La_request_7 : decode b_La_request 7 = .ok (.putfield 23, 3) := by decide +kernel
theorem d_La_request_10 : decode b_La_request 10 = .ok (.aload_n 0, 1) := by decide +kernel
theorem d_La_request_11 : decode b_La_request 11 = .ok (.getfield 10, 3) := by decide +kernel
theorem d_La_request_14 : decode b_La_request 14 = .ok (.iload_n 1, 1) := by decide +kernel
theorem d_La_request_15 : decode b_La_request 15 = .ok (.iload_n 2, 1) := by decide +kernel
theorem d_La_request_16 : decode b_La_request 16 = .ok (.invokevirtual 111, 3) := by decide +kernel
theorem d_La_request_19 : decode b_La_request 19 = .ok (.istore 4, 2) := by decide +kernel
theorem d_La_request_21 : decode b_La_request 21 = .ok (.iload 4, 2) := by decide +kernel
theorem d_La_request_23 : decode b_La_request 23 = .ok (.ifCond .eq 6, 3) := by decide +kernel
theorem d_La_request_26 : decode b_La_request 26 = .ok (.iload 4, 2) := by decide +kernel
theorem d_La_request_28 : decode b_La_request 28 = .ok (.ireturn, 1) := by decide +kernel
theorem d_La_request_29 : decode b_La_request 29 = .ok (.aload_n 0, 1) := by decide +kernel
theorem d_La_request_30 : decode b_La_request 30 = .ok (.getfield 10, 3) := by decide +kernel
theorem d_La_request_33 : decode b_La_request 33 = .ok (.iload_n 1, 1) := by decide +kernel
theorem d_La_request_34 : decode b_La_request 34 = .ok (.iload_n 2, 1) := by decide +kernel
theorem d_La_request_35 : decode b_La_request 35 = .ok (.invokevirtual 151, 3) := by decide +kernel
theorem d_La_request_38 : decode b_La_request 38 = .ok (.ifCond .ne 9, 3) := by decide +kernel
theorem d_La_request_41 : decode b_La_request 41 = .ok (.iload_n 3, 1) := by decide +kernel
theorem d_La_request_42 : decode b_La_request 42 = .ok (.bipush 40, 2) := by decide +kernel
theorem d_La_request_44 : decode b_La_request 44 = .ok (.if_icmp .lt 10, 3) := by decide +kernel
theorem d_La_request_47 : decode b_La_request 47 = .ok (.aload_n 0, 1) := by decide +kernel
theorem d_La_request_48 : decode b_La_request 48 = .ok (.bipush (-10), 2) := by decide +kernel
theorem d_La_request_50 : decode b_La_request 50 = .ok (.invokevirtual 154, 3) := by decide +kernel
theorem d_La_request_53 : decode b_La_request 53 = .ok (.ireturn, 1) := by decide +kernel
theorem d_La_request_54 : decode b_La_request 54 = .ok (.aload_n 0, 1) := by decide +kernel
theorem d_La_request_55 : decode b_La_request 55 = .ok (.getfield 10, 3) := by decide +kernel
theorem d_La_request_58 : decode b_La_request 58 = .ok (.iload_n 1, 1) := by decide +kernel
theorem d_La_request_59 : decode b_La_request 59 = .ok (.iload_n 2, 1) := by decide +kernel
theorem d_La_request_60 : decode b_La_request 60 = .ok (.iconst 1, 1) := by decide +kernel
theorem d_La_request_61 : decode b_La_request 61 = .ok (.invokevirtual 157, 3) := by decide +kernel
theorem d_La_request_64 : decode b_La_request 64 = .ok (.aload_n 0, 1) := by decide +kernel
theorem d_La_request_65 : decode b_La_request 65 = .ok (.iload_n 1, 1) := by decide +kernel
theorem d_La_request_66 : decode b_La_request 66 = .ok (.iload_n 2, 1) := by decide +kernel
theorem d_La_request_67 : decode b_La_request 67 = .ok (.iload_n 3, 1) := by decide +kernel
theorem d_La_request_68 : decode b_La_request 68 = .ok (.invokevirtual 161, 3) := by decide +kernel
theorem d_La_request_71 : decode b_La_request 71 = .ok (.istore 5, 2) := by decide +kernel
theorem d_La_request_73 : decode b_La_request 73 = .ok (.aload_n 0, 1) := by decide +kernel
theorem d_La_request_74 : decode b_La_request 74 = .ok (.getfield 10, 3) := by decide +kernel
theorem d_La_request_77 : decode b_La_request 77 = .ok (.iload_n 1, 1) := by decide +kernel
theorem d_La_request_78 : decode b_La_request 78 = .ok (.iload_n 2, 1) := by decide +kernel
theorem d_La_request_79 : decode b_La_request 79 = .ok (.iconst 0, 1) := by decide +kernel
theorem d_La_request_80 : decode b_La_request 80 = .ok (.invokevirtual 157, 3) := by decide +kernel
theorem d_La_request_83 : decode b_La_request 83 = .ok (.iload 5, 2) := by decide +kernel
theorem d_La_request_85 : decode b_La_request 85 = .ok (.ifCond .ge 8, 3) := by decide +kernel
theorem d_La_request_88 : decode b_La_request 88 = .ok (.iload 5, 2) := by decide +kernel
theorem d_La_request_90 : decode b_La_request 90 = .ok (.goto 11, 3) := by decide +kernel
theorem d_La_request_93 : decode b_La_request 93 = .ok (.aload_n 0, 1) := by decide +kernel
theorem d_La_request_94 : decode b_La_request 94 = .ok (.iload_n 1, 1) := by decide +kernel
theorem d_La_request_95 : decode b_La_request 95 = .ok (.iload_n 2, 1) := by decide +kernel
theorem d_La_request_96 : decode b_La_request 96 = .ok (.iload 5, 2) := by decide +kernel
theorem d_La_request_98 : decode b_La_request 98 = .ok (.invokevirtual 164, 3) := by decide +kernel
theorem d_La_request_101 : decode b_La_request 101 = .ok (.ireturn, 1) := by decide +kernel
theorem d_La_accept_0 : decode b_La_accept 0 = .ok (.iload_n 3, 1) := by decide +kernel
theorem d_La_accept_1 : decode b_La_accept 1 = .ok (.ifCond .ne 10, 3) := by decide +kernel
theorem d_La_accept_4 : decode b_La_accept 4 = .ok (.aload_n 0, 1) := by decide +kernel
theorem d_La_accept_5 : decode b_La_accept 5 = .ok (.bipush (-4), 2) := by decide +kernel
theorem d_La_accept_7 : decode b_La_accept 7 = .ok (.invokevirtual 154, 3) := by decide +kernel
theorem d_La_accept_10 : decode b_La_accept 10 = .ok (.ireturn, 1) := by decide +kernel
theorem d_La_accept_11 : decode b_La_accept 11 = .ok (.aload_n 0, 1) := by decide +kernel
theorem d_La_accept_12 : decode b_La_accept 12 = .ok (.getfield 19, 3) := by decide +kernel
theorem d_La_accept_15 : decode b_La_accept 15 = .ok (.iload_n 3, 1) := by decide +kernel
theorem d_La_accept_16 : decode b_La_accept 16 = .ok (.invokevirtual 117, 3) := by decide +kernel
theorem d_La_accept_19 : decode b_La_accept 19 = .ok (.iload_n 2, 1) := by decide +kernel
theorem d_La_accept_20 : decode b_La_accept 20 = .ok (.if_icmp .eq 10, 3) := by decide +kernel
theorem d_La_accept_23 : decode b_La_accept 23 = .ok (.aload_n 0, 1) := by decide +kernel
theorem d_La_accept_24 : decode b_La_accept 24 = .ok (.bipush (-5), 2) := by decide +kernel
theorem d_La_accept_26 : decode b_La_accept 26 = .ok (.invokevirtual 154, 3) := by decide +kernel
theorem d_La_accept_29 : decode b_La_accept 29 = .ok (.ireturn, 1) := by decide +kernel
theorem d_La_accept_30 : decode b_La_accept 30 = .ok (.aload_n 0, 1) := by decide +kernel
theorem d_La_accept_31 : decode b_La_accept 31 = .ok (.getfield 10, 3) := by decide +kernel
theorem d_La_accept_34 : decode b_La_accept 34 = .ok (.iload_n 1, 1) := by decide +kernel
theorem d_La_accept_35 : decode b_La_accept 35 = .ok (.iload_n 2, 1) := by decide +kernel
theorem d_La_accept_36 : decode b_La_accept 36 = .ok (.iload_n 3, 1) := by decide +kernel
theorem d_La_accept_37 : decode b_La_accept 37 = .ok (.invokevirtual 167, 3) := by decide +kernel
theorem d_La_accept_40 : decode b_La_accept 40 = .ok (.ifCond .eq 10, 3) := by decide +kernel
theorem d_La_accept_43 : decode b_La_accept 43 = .ok (.aload_n 0, 1) := by decide +kernel
theorem d_La_accept_44 : decode b_La_accept 44 = .ok (.bipush (-9), 2) := by decide +kernel
theorem d_La_accept_46 : decode b_La_accept 46 = .ok (.invokevirtual 154, 3) := by decide +kernel
theorem d_La_accept_49 : decode b_La_accept 49 = .ok (.ireturn, 1) := by decide +kernel
theorem d_La_accept_50 : decode b_La_accept 50 = .ok (.aload_n 0, 1) := by decide +kernel
theorem d_La_accept_51 : decode b_La_accept 51 = .ok (.getfield 10, 3) := by decide +kernel
theorem d_La_accept_54 : decode b_La_accept 54 = .ok (.iload_n 1, 1) := by decide +kernel
theorem d_La_accept_55 : decode b_La_accept 55 = .ok (.iload_n 2, 1) := by decide +kernel
theorem d_La_accept_56 : decode b_La_accept 56 = .ok (.iload_n 3, 1) := by decide +kernel
theorem d_La_accept_57 : decode b_La_accept 57 = .ok (.invokevirtual 170, 3) := by decide +kernel
theorem d_La_accept_60 : decode b_La_accept 60 = .ok (.iload_n 3, 1) := by decide +kernel
theorem d_La_accept_61 : decode b_La_accept 61 = .ok (.ireturn, 1) := by decide +kernel
theorem d_La_followScript_0 : decode b_La_followScript 0 = .ok (.aload_n 0, 1) := by decide +kernel
theorem d_La_followScript_1 : decode b_La_followScript 1 = .ok (.getfield 10, 3) := by decide +kernel
theorem d_La_followScript_4 : decode b_La_followScript 4 = .ok (.iload_n 1, 1) := by decide +kernel
theorem d_La_followScript_5 : decode b_La_followScript 5 = .ok (.iload_n 2, 1) := by decide +kernel
theorem d_La_followScript_6 : decode b_La_followScript 6 = .ok (.invokevirtual 173, 3) := by decide +kernel
theorem d_La_followScript_9 : decode b_La_followScript 9 = .ok (.istore 4, 2) := by decide +kernel
theorem d_La_followScript_11 : decode b_La_followScript 11 = .ok (.aload_n 0, 1) := by decide +kernel
theorem d_La_followScript_12 : decode b_La_followScript 12 = .ok (.getfield 10, 3) := by decide +kernel
theorem d_La_followScript_15 : decode b_La_followScript 15 = .ok (.iload_n 1, 1) := by decide +kernel
theorem d_La_followScript_16 : decode b_La_followScript 16 = .ok (.iload_n 2, 1) := by decide +kernel
theorem d_La_followScript_17 : decode b_La_followScript 17 = .ok (.invokevirtual 176, 3) := by decide +kernel
theorem d_La_followScript_20 : decode b_La_followScript 20 = .ok (.tableswitch 131 1 6 #[40, 70, 81, 92, 94, 101], 40) := by decide +kernel
theorem d_La_followScript_60 : decode b_La_followScript 60 = .ok (.aload_n 0, 1) := by decide +kernel
theorem d_La_followScript_61 : decode b_La_followScript 61 = .ok (.getfield 10, 3) := by decide +kernel
theorem d_La_followScript_64 : decode b_La_followScript 64 = .ok (.iload_n 1, 1) := by decide +kernel
theorem d_La_followScript_65 : decode b_La_followScript 65 = .ok (.iload_n 2, 1) := by decide +kernel
theorem d_La_followScript_66 : decode b_La_followScript 66 = .ok (.invokevirtual 51, 3) := by decide +kernel
theorem d_La_followScript_69 : decode b_La_followScript 69 = .ok (.ifCond .eq 13, 3) := by decide +kernel
theorem d_La_followScript_72 : decode b_La_followScript 72 = .ok (.aload_n 0, 1) := by decide +kernel
theorem d_La_followScript_73 : decode b_La_followScript 73 = .ok (.iload_n 1, 1) := by decide +kernel
theorem d_La_followScript_74 : decode b_La_followScript 74 = .ok (.iload_n 2, 1) := by decide +kernel
theorem d_La_followScript_75 : decode b_La_followScript 75 = .ok (.iload_n 3, 1) := by decide +kernel
theorem d_La_followScript_76 : decode b_La_followScript 76 = .ok (.invokevirtual 179, 3) := by decide +kernel
theorem d_La_followScript_79 : decode b_La_followScript 79 = .ok (.goto 10, 3) := by decide +kernel
theorem d_La_followScript_82 : decode b_La_followScript 82 = .ok (.aload_n 0, 1) := by decide +kernel
theorem d_La_followScript_83 : decode b_La_followScript 83 = .ok (.iload_n 1, 1) := by decide +kernel
theorem d_La_followScript_84 : decode b_La_followScript 84 = .ok (.iload_n 2, 1) := by decide +kernel
theorem d_La_followScript_85 : decode b_La_followScript 85 = .ok (.iload_n 3, 1) := by decide +kernel
theorem d_La_followScript_86 : decode b_La_followScript 86 = .ok (.invokevirtual 182, 3) := by decide +kernel
theorem d_La_followScript_89 : decode b_La_followScript 89 = .ok (.ireturn, 1) := by decide +kernel
theorem d_La_followScript_90 : decode b_La_followScript 90 = .ok (.aload_n 0, 1) := by decide +kernel
theorem d_La_followScript_91 : decode b_La_followScript 91 = .ok (.iload 4, 2) := by decide +kernel
theorem d_La_followScript_93 : decode b_La_followScript 93 = .ok (.iload_n 2, 1) := by decide +kernel
theorem d_La_followScript_94 : decode b_La_followScript 94 = .ok (.iload_n 3, 1) := by decide +kernel
theorem d_La_followScript_95 : decode b_La_followScript 95 = .ok (.iconst 1, 1) := by decide +kernel
theorem d_La_followScript_96 : decode b_La_followScript 96 = .ok (.iadd, 1) := by decide +kernel
theorem d_La_followScript_97 : decode b_La_followScript 97 = .ok (.invokevirtual 63, 3) := by decide +kernel
theorem d_La_followScript_100 : decode b_La_followScript 100 = .ok (.ireturn, 1) := by decide +kernel
theorem d_La_followScript_101 : decode b_La_followScript 101 = .ok (.aload_n 0, 1) := by decide +kernel
theorem d_La_followScript_102 : decode b_La_followScript 102 = .ok (.iload_n 1, 1) := by decide +kernel
theorem d_La_followScript_103 : decode b_La_followScript 103 = .ok (.iload 4, 2) := by decide +kernel
theorem d_La_followScript_105 : decode b_La_followScript 105 = .ok (.iload_n 3, 1) := by decide +kernel
theorem d_La_followScript_106 : decode b_La_followScript 106 = .ok (.iconst 1, 1) := by decide +kernel
theorem d_La_followScript_107 : decode b_La_followScript 107 = .ok (.iadd, 1) := by decide +kernel
theorem d_La_followScript_108 : decode b_La_followScript 108 = .ok (.invokevirtual 63, 3) := by decide +kernel
theorem d_La_followScript_111 : decode b_La_followScript 111 = .ok (.ireturn, 1) := by decide +kernel
theorem d_La_followScript_112 : decode b_La_followScript 112 = .ok (.iconst 0, 1) := by decide +kernel
theorem d_La_followScript_113 : decode b_La_followScript 113 = .ok (.ireturn, 1) := by decide +kernel
theorem d_La_followScript_114 : decode b_La_followScript 114 = .ok (.aload_n 0, 1) := by decide +kernel
theorem d_La_followScript_115 : decode b_La_followScript 115 = .ok (.bipush (-11), 2) := by decide +kernel
theorem d_La_followScript_117 : decode b_La_followScript 117 = .ok (.invokevirtual 154, 3) := by decide +kernel
theorem d_La_followScript_120 : decode b_La_followScript 120 = .ok (.ireturn, 1) := by decide +kernel
theorem d_La_followScript_121 : decode b_La_followScript 121 = .ok (.aload_n 0, 1) := by decide +kernel
theorem d_La_followScript_122 : decode b_La_followScript 122 = .ok (.iload_n 1, 1) := by decide +kernel
theorem d_La_followScript_123 : decode b_La_followScript 123 = .ok (.iload 4, 2) := by decide +kernel
theorem d_La_followScript_125 : decode b_La_followScript 125 = .ok (.iload_n 3, 1) := by decide +kernel
theorem d_La_followScript_126 : decode b_La_followScript 126 = .ok (.iconst 1, 1) := by decide +kernel
theorem d_La_followScript_127 : decode b_La_followScript 127 = .ok (.iadd, 1) := by decide +kernel
theorem d_La_followScript_128 : decode b_La_followScript 128 = .ok (.invokevirtual 63, 3) := by decide +kernel
theorem d_La_followScript_131 : decode b_La_followScript 131 = .ok (.istore 5, 2) := by decide +kernel
theorem d_La_followScript_133 : decode b_La_followScript 133 = .ok (.iload 5, 2) := by decide +kernel
theorem d_La_followScript_135 : decode b_La_followScript 135 = .ok (.ifCond .ge 8, 3) := by decide +kernel
theorem d_La_followScript_138 : decode b_La_followScript 138 = .ok (.iload 5, 2) := by decide +kernel
theorem d_La_followScript_140 : decode b_La_followScript 140 = .ok (.goto 10, 3) := by decide +kernel
theorem d_La_followScript_143 : decode b_La_followScript 143 = .ok (.aload_n 0, 1) := by decide +kernel
theorem d_La_followScript_144 : decode b_La_followScript 144 = .ok (.iload_n 1, 1) := by decide +kernel
theorem d_La_followScript_145 : decode b_La_followScript 145 = .ok (.iload_n 2, 1) := by decide +kernel
theorem d_La_followScript_146 : decode b_La_followScript 146 = .ok (.iload_n 3, 1) := by decide +kernel
theorem d_La_followScript_147 : decode b_La_followScript 147 = .ok (.invokevirtual 185, 3) := by decide +kernel
theorem d_La_followScript_150 : decode b_La_followScript 150 = .ok (.ireturn, 1) := by decide +kernel
theorem d_La_followScript_151 : decode b_La_followScript 151 = .ok (.aload_n 0, 1) := by decide +kernel
theorem d_La_followScript_152 : decode b_La_followScript 152 = .ok (.iload_n 1, 1) := by decide +kernel
theorem d_La_followScript_153 : decode b_La_followScript 153 = .ok (.iload_n 2, 1) := by decide +kernel
theorem d_La_followScript_154 : decode b_La_followScript 154 = .ok (.iload_n 3, 1) := by decide +kernel
theorem d_La_followScript_155 : decode b_La_followScript 155 = .ok (.invokevirtual 185, 3) := by decide +kernel
theorem d_La_followScript_158 : decode b_La_followScript 158 = .ok (.ireturn, 1) := by decide +kernel
theorem d_La_askParentThenDefine_0 : decode b_La_askParentThenDefine 0 = .ok (.aload_n 0, 1) := by decide +kernel
theorem d_La_askParentThenDefine_1 : decode b_La_askParentThenDefine 1 = .ok (.iload_n 1, 1) := by decide +kernel
theorem d_La_askParentThenDefine_2 : decode b_La_askParentThenDefine 2 = .ok (.iload_n 2, 1) := by decide +kernel
theorem d_La_askParentThenDefine_3 : decode b_La_askParentThenDefine 3 = .ok (.iload_n 3, 1) := by decide +kernel
theorem d_La_askParentThenDefine_4 : decode b_La_askParentThenDefine 4 = .ok (.invokevirtual 182, 3) := by decide +kernel
theorem d_La_askParentThenDefine_7 : decode b_La_askParentThenDefine 7 = .ok (.istore 4, 2) := by decide +kernel
theorem d_La_askParentThenDefine_9 : decode b_La_askParentThenDefine 9 = .ok (.iload 4, 2) := by decide +kernel
theorem d_La_askParentThenDefine_11 : decode b_La_askParentThenDefine 11 = .ok (.bipush (-3), 2) := by decide +kernel
theorem d_La_askParentThenDefine_13 : decode b_La_askParentThenDefine 13 = .ok (.if_icmp .ne 13, 3) := by decide +kernel
theorem d_La_askParentThenDefine_16 : decode b_La_askParentThenDefine 16 = .ok (.aload_n 0, 1) := by decide +kernel
theorem d_La_askParentThenDefine_17 : decode b_La_askParentThenDefine 17 = .ok (.iload_n 1, 1) := by decide +kernel
theorem d_La_askParentThenDefine_18 : decode b_La_askParentThenDefine 18 = .ok (.iload_n 2, 1) := by decide +kernel
theorem d_La_askParentThenDefine_19 : decode b_La_askParentThenDefine 19 = .ok (.iload_n 3, 1) := by decide +kernel
theorem d_La_askParentThenDefine_20 : decode b_La_askParentThenDefine 20 = .ok (.invokevirtual 179, 3) := by decide +kernel
theorem d_La_askParentThenDefine_23 : decode b_La_askParentThenDefine 23 = .ok (.goto 5, 3) := by decide +kernel
theorem d_La_askParentThenDefine_26 : decode b_La_askParentThenDefine 26 = .ok (.iload 4, 2) := by decide +kernel
theorem d_La_askParentThenDefine_28 : decode b_La_askParentThenDefine 28 = .ok (.ireturn, 1) := by decide +kernel
theorem d_La_askParent_0 : decode b_La_askParent 0 = .ok (.aload_n 0, 1) := by decide +kernel
theorem d_La_askParent_1 : decode b_La_askParent 1 = .ok (.getfield 10, 3) := by decide +kernel
theorem d_La_askParent_4 : decode b_La_askParent 4 = .ok (.iload_n 1, 1) := by decide +kernel
theorem d_La_askParent_5 : decode b_La_askParent 5 = .ok (.invokevirtual 188, 3) := by decide +kernel
theorem d_La_askParent_8 : decode b_La_askParent 8 = .ok (.istore 4, 2) := by decide +kernel
theorem d_La_askParent_10 : decode b_La_askParent 10 = .ok (.iload 4, 2) := by decide +kernel
theorem d_La_askParent_12 : decode b_La_askParent 12 = .ok (.iconst (-1), 1) := by decide +kernel
theorem d_La_askParent_13 : decode b_La_askParent 13 = .ok (.if_icmp .ne 12, 3) := by decide +kernel
theorem d_La_askParent_16 : decode b_La_askParent 16 = .ok (.aload_n 0, 1) := by decide +kernel
theorem d_La_askParent_17 : decode b_La_askParent 17 = .ok (.bipush (-3), 2) := by decide +kernel
theorem d_La_askParent_19 : decode b_La_askParent 19 = .ok (.invokevirtual 154, 3) := by decide +kernel
theorem d_La_askParent_22 : decode b_La_askParent 22 = .ok (.goto 13, 3) := by decide +kernel
theorem d_La_askParent_25 : decode b_La_askParent 25 = .ok (.aload_n 0, 1) := by decide +kernel
theorem d_La_askParent_26 : decode b_La_askParent 26 = .ok (.iload 4, 2) := by decide +kernel
theorem d_La_askParent_28 : decode b_La_askParent 28 = .ok (.iload_n 2, 1) := by decide +kernel
theorem d_La_askParent_29 : decode b_La_askParent 29 = .ok (.iload_n 3, 1) := by decide +kernel
theorem d_La_askParent_30 : decode b_La_askParent 30 = .ok (.iconst 1, 1) := by decide +kernel
theorem d_La_askParent_31 : decode b_La_askParent 31 = .ok (.iadd, 1) := by decide +kernel
theorem d_La_askParent_32 : decode b_La_askParent 32 = .ok (.invokevirtual 63, 3) := by decide +kernel
theorem d_La_askParent_35 : decode b_La_askParent 35 = .ok (.ireturn, 1) := by decide +kernel
theorem d_La_define_0 : decode b_La_define 0 = .ok (.aload_n 0, 1) := by decide +kernel
theorem d_La_define_1 : decode b_La_define 1 = .ok (.getfield 10, 3) := by decide +kernel
theorem d_La_define_4 : decode b_La_define 4 = .ok (.iload_n 1, 1) := by decide +kernel
theorem d_La_define_5 : decode b_La_define 5 = .ok (.iload_n 2, 1) := by decide +kernel
theorem d_La_define_6 : decode b_La_define 6 = .ok (.invokevirtual 51, 3) := by decide +kernel
theorem d_La_define_9 : decode b_La_define 9 = .ok (.ifCond .ne 10, 3) := by decide +kernel
theorem d_La_define_12 : decode b_La_define 12 = .ok (.aload_n 0, 1) := by decide +kernel
theorem d_La_define_13 : decode b_La_define 13 = .ok (.bipush (-3), 2) := by decide +kernel
theorem d_La_define_15 : decode b_La_define 15 = .ok (.invokevirtual 154, 3) := by decide +kernel
theorem d_La_define_18 : decode b_La_define 18 = .ok (.ireturn, 1) := by decide +kernel
theorem d_La_define_19 : decode b_La_define 19 = .ok (.aload_n 0, 1) := by decide +kernel
theorem d_La_define_20 : decode b_La_define 20 = .ok (.getfield 10, 3) := by decide +kernel
theorem d_La_define_23 : decode b_La_define 23 = .ok (.iload_n 1, 1) := by decide +kernel
theorem d_La_define_24 : decode b_La_define 24 = .ok (.iload_n 2, 1) := by decide +kernel
theorem d_La_define_25 : decode b_La_define 25 = .ok (.invokevirtual 191, 3) := by decide +kernel
theorem d_La_define_28 : decode b_La_define 28 = .ok (.istore 4, 2) := by decide +kernel
theorem d_La_define_30 : decode b_La_define 30 = .ok (.iload 4, 2) := by decide +kernel
theorem d_La_define_32 : decode b_La_define 32 = .ok (.iconst 4, 1) := by decide +kernel
theorem d_La_define_33 : decode b_La_define 33 = .ok (.iand, 1) := by decide +kernel
theorem d_La_define_34 : decode b_La_define 34 = .ok (.ifCond .eq 10, 3) := by decide +kernel
theorem d_La_define_37 : decode b_La_define 37 = .ok (.aload_n 0, 1) := by decide +kernel
theorem d_La_define_38 : decode b_La_define 38 = .ok (.bipush (-6), 2) := by decide +kernel
theorem d_La_define_40 : decode b_La_define 40 = .ok (.invokevirtual 154, 3) := by decide +kernel
theorem d_La_define_43 : decode b_La_define 43 = .ok (.ireturn, 1) := by decide +kernel
theorem d_La_define_44 : decode b_La_define 44 = .ok (.aload_n 0, 1) := by decide +kernel
theorem d_La_define_45 : decode b_La_define 45 = .ok (.getfield 10, 3) := by decide +kernel
theorem d_La_define_48 : decode b_La_define 48 = .ok (.iload_n 1, 1) := by decide +kernel
theorem d_La_define_49 : decode b_La_define 49 = .ok (.iload_n 2, 1) := by decide +kernel
theorem d_La_define_50 : decode b_La_define 50 = .ok (.invokevirtual 194, 3) := by decide +kernel
theorem d_La_define_53 : decode b_La_define 53 = .ok (.iload_n 2, 1) := by decide +kernel
theorem d_La_define_54 : decode b_La_define 54 = .ok (.if_icmp .eq 10, 3) := by decide +kernel
theorem d_La_define_57 : decode b_La_define 57 = .ok (.aload_n 0, 1) := by decide +kernel
theorem d_La_define_58 : decode b_La_define 58 = .ok (.bipush (-5), 2) := by decide +kernel
theorem d_La_define_60 : decode b_La_define 60 = .ok (.invokevirtual 154, 3) := by decide +kernel
theorem d_La_define_63 : decode b_La_define 63 = .ok (.ireturn, 1) := by decide +kernel
theorem d_La_define_64 : decode b_La_define 64 = .ok (.aload_n 0, 1) := by decide +kernel
theorem d_La_define_65 : decode b_La_define 65 = .ok (.iload_n 1, 1) := by decide +kernel
theorem d_La_define_66 : decode b_La_define 66 = .ok (.aload_n 0, 1) := by decide +kernel
theorem d_La_define_67 : decode b_La_define 67 = .ok (.getfield 10, 3) := by decide +kernel
theorem d_La_define_70 : decode b_La_define 70 = .ok (.iload_n 1, 1) := by decide +kernel
theorem d_La_define_71 : decode b_La_define 71 = .ok (.iload_n 2, 1) := by decide +kernel
theorem d_La_define_72 : decode b_La_define 72 = .ok (.invokevirtual 197, 3) := by decide +kernel
theorem d_La_define_75 : decode b_La_define 75 = .ok (.iload_n 3, 1) := by decide +kernel
theorem d_La_define_76 : decode b_La_define 76 = .ok (.invokevirtual 200, 3) := by decide +kernel
theorem d_La_define_79 : decode b_La_define 79 = .ok (.istore 5, 2) := by decide +kernel
theorem d_La_define_81 : decode b_La_define 81 = .ok (.iload 5, 2) := by decide +kernel
theorem d_La_define_83 : decode b_La_define 83 = .ok (.ifCond .ge 6, 3) := by decide +kernel
theorem d_La_define_86 : decode b_La_define 86 = .ok (.iload 5, 2) := by decide +kernel
theorem d_La_define_88 : decode b_La_define 88 = .ok (.ireturn, 1) := by decide +kernel
theorem d_La_define_89 : decode b_La_define 89 = .ok (.iload 5, 2) := by decide +kernel
theorem d_La_define_91 : decode b_La_define 91 = .ok (.ifCond .eq 24, 3) := by decide +kernel
theorem d_La_define_94 : decode b_La_define 94 = .ok (.aload_n 0, 1) := by decide +kernel
theorem d_La_define_95 : decode b_La_define 95 = .ok (.getfield 19, 3) := by decide +kernel
theorem d_La_define_98 : decode b_La_define 98 = .ok (.iload 5, 2) := by decide +kernel
theorem d_La_define_100 : decode b_La_define 100 = .ok (.invokevirtual 126, 3) := by decide +kernel
theorem d_La_define_103 : decode b_La_define 103 = .ok (.iconst 3, 1) := by decide +kernel
theorem d_La_define_104 : decode b_La_define 104 = .ok (.iand, 1) := by decide +kernel
theorem d_La_define_105 : decode b_La_define 105 = .ok (.ifCond .eq 10, 3) := by decide +kernel
theorem d_La_define_108 : decode b_La_define 108 = .ok (.aload_n 0, 1) := by decide +kernel
theorem d_La_define_109 : decode b_La_define 109 = .ok (.bipush (-8), 2) := by decide +kernel
theorem d_La_define_111 : decode b_La_define 111 = .ok (.invokevirtual 154, 3) := by decide +kernel
theorem d_La_define_114 : decode b_La_define 114 = .ok (.ireturn, 1) := by decide +kernel
theorem d_La_define_115 : decode b_La_define 115 = .ok (.aload_n 0, 1) := by decide +kernel
theorem d_La_define_116 : decode b_La_define 116 = .ok (.iload_n 1, 1) := by decide +kernel
theorem d_La_define_117 : decode b_La_define 117 = .ok (.aload_n 0, 1) := by decide +kernel
theorem d_La_define_118 : decode b_La_define 118 = .ok (.getfield 10, 3) := by decide +kernel
theorem d_La_define_121 : decode b_La_define 121 = .ok (.iload_n 1, 1) := by decide +kernel
theorem d_La_define_122 : decode b_La_define 122 = .ok (.iload_n 2, 1) := by decide +kernel
theorem d_La_define_123 : decode b_La_define 123 = .ok (.invokevirtual 203, 3) := by decide +kernel
theorem d_La_define_126 : decode b_La_define 126 = .ok (.iload_n 3, 1) := by decide +kernel
theorem d_La_define_127 : decode b_La_define 127 = .ok (.invokevirtual 200, 3) := by decide +kernel
theorem d_La_define_130 : decode b_La_define 130 = .ok (.istore 6, 2) := by decide +kernel
theorem d_La_define_132 : decode b_La_define 132 = .ok (.iload 6, 2) := by decide +kernel
theorem d_La_define_134 : decode b_La_define 134 = .ok (.ifCond .ge 6, 3) := by decide +kernel
theorem d_La_define_137 : decode b_La_define 137 = .ok (.iload 6, 2) := by decide +kernel
theorem d_La_define_139 : decode b_La_define 139 = .ok (.ireturn, 1) := by decide +kernel
theorem d_La_define_140 : decode b_La_define 140 = .ok (.iload 6, 2) := by decide +kernel
theorem d_La_define_142 : decode b_La_define 142 = .ok (.ifCond .eq 24, 3) := by decide +kernel
theorem d_La_define_145 : decode b_La_define 145 = .ok (.aload_n 0, 1) := by decide +kernel
theorem d_La_define_146 : decode b_La_define 146 = .ok (.getfield 19, 3) := by decide +kernel
theorem d_La_define_149 : decode b_La_define 149 = .ok (.iload 6, 2) := by decide +kernel
theorem d_La_define_151 : decode b_La_define 151 = .ok (.invokevirtual 126, 3) := by decide +kernel
theorem d_La_define_154 : decode b_La_define 154 = .ok (.iconst 1, 1) := by decide +kernel
theorem d_La_define_155 : decode b_La_define 155 = .ok (.iand, 1) := by decide +kernel
theorem d_La_define_156 : decode b_La_define 156 = .ok (.ifCond .ne 10, 3) := by decide +kernel
theorem d_La_define_159 : decode b_La_define 159 = .ok (.aload_n 0, 1) := by decide +kernel
theorem d_La_define_160 : decode b_La_define 160 = .ok (.bipush (-8), 2) := by decide +kernel
theorem d_La_define_162 : decode b_La_define 162 = .ok (.invokevirtual 154, 3) := by decide +kernel
theorem d_La_define_165 : decode b_La_define 165 = .ok (.ireturn, 1) := by decide +kernel
theorem d_La_define_166 : decode b_La_define 166 = .ok (.aload_n 0, 1) := by decide +kernel
theorem d_La_define_167 : decode b_La_define 167 = .ok (.getfield 19, 3) := by decide +kernel
theorem d_La_define_170 : decode b_La_define 170 = .ok (.invokevirtual 132, 3) := by decide +kernel
theorem d_La_define_173 : decode b_La_define 173 = .ok (.bipush 30, 2) := by decide +kernel
theorem d_La_define_175 : decode b_La_define 175 = .ok (.if_icmp .lt 10, 3) := by decide +kernel
theorem d_La_define_178 : decode b_La_define 178 = .ok (.aload_n 0, 1) := by decide +kernel
theorem d_La_define_179 : decode b_La_define 179 = .ok (.bipush (-2), 2) := by decide +kernel
theorem d_La_define_181 : decode b_La_define 181 = .ok (.invokevirtual 154, 3) := by decide +kernel
theorem d_La_define_184 : decode b_La_define 184 = .ok (.ireturn, 1) := by decide +kernel
theorem d_La_define_185 : decode b_La_define 185 = .ok (.aload_n 0, 1) := by decide +kernel
theorem d_La_define_186 : decode b_La_define 186 = .ok (.getfield 19, 3) := by decide +kernel
theorem d_La_define_189 : decode b_La_define 189 = .ok (.iload_n 2, 1) := by decide +kernel
theorem d_La_define_190 : decode b_La_define 190 = .ok (.iload_n 1, 1) := by decide +kernel
theorem d_La_define_191 : decode b_La_define 191 = .ok (.iload 5, 2) := by decide +kernel
theorem d_La_define_193 : decode b_La_define 193 = .ok (.iload 6, 2) := by decide +kernel
theorem d_La_define_195 : decode b_La_define 195 = .ok (.iload 4, 2) := by decide +kernel
theorem d_La_define_197 : decode b_La_define 197 = .ok (.invokevirtual 206, 3) := by decide +kernel
theorem d_La_define_200 : decode b_La_define 200 = .ok (.ireturn, 1) := by decide +kernel
theorem d_La_resolvePart_0 : decode b_La_resolvePart 0 = .ok (.iload_n 2, 1) := by decide +kernel
theorem d_La_resolvePart_1 : decode b_La_resolvePart 1 = .ok (.bipush 8, 2) := by decide +kernel
theorem d_La_resolvePart_3 : decode b_La_resolvePart 3 = .ok (.if_icmp .ne 5, 3) := by decide +kernel
theorem d_La_resolvePart_6 : decode b_La_resolvePart 6 = .ok (.iconst 0, 1) := by decide +kernel
theorem d_La_resolvePart_7 : decode b_La_resolvePart 7 = .ok (.ireturn, 1) := by decide +kernel
theorem d_La_resolvePart_8 : decode b_La_resolvePart 8 = .ok (.aload_n 0, 1) := by decide +kernel
theorem d_La_resolvePart_9 : decode b_La_resolvePart 9 = .ok (.getfield 10, 3) := by decide +kernel
theorem d_La_resolvePart_12 : decode b_La_resolvePart 12 = .ok (.iload_n 1, 1) := by decide +kernel
theorem d_La_resolvePart_13 : decode b_La_resolvePart 13 = .ok (.iload_n 2, 1) := by decide +kernel
theorem d_La_resolvePart_14 : decode b_La_resolvePart 14 = .ok (.invokevirtual 151, 3) := by decide +kernel
theorem d_La_resolvePart_17 : decode b_La_resolvePart 17 = .ok (.ifCond .eq 10, 3) := by decide +kernel
theorem d_La_resolvePart_20 : decode b_La_resolvePart 20 = .ok (.aload_n 0, 1) := by decide +kernel
theorem d_La_resolvePart_21 : decode b_La_resolvePart 21 = .ok (.bipush (-7), 2) := by decide +kernel
theorem d_La_resolvePart_23 : decode b_La_resolvePart 23 = .ok (.invokevirtual 154, 3) := by decide +kernel
theorem d_La_resolvePart_26 : decode b_La_resolvePart 26 = .ok (.ireturn, 1) := by decide +kernel
theorem d_La_resolvePart_27 : decode b_La_resolvePart 27 = .ok (.aload_n 0, 1) := by decide +kernel
theorem d_La_resolvePart_28 : decode b_La_resolvePart 28 = .ok (.iload_n 1, 1) := by decide +kernel
theorem d_La_resolvePart_29 : decode b_La_resolvePart 29 = .ok (.iload_n 2, 1) := by decide +kernel
theorem d_La_resolvePart_30 : decode b_La_resolvePart 30 = .ok (.iload_n 3, 1) := by decide +kernel
theorem d_La_resolvePart_31 : decode b_La_resolvePart 31 = .ok (.iconst 1, 1) := by decide +kernel
theorem d_La_resolvePart_32 : decode b_La_resolvePart 32 = .ok (.iadd, 1) := by decide +kernel
theorem d_La_resolvePart_33 : decode b_La_resolvePart 33 = .ok (.invokevirtual 95, 3) := by decide +kernel
theorem d_La_resolvePart_36 : decode b_La_resolvePart 36 = .ok (.ireturn, 1) := by decide +kernel
theorem d_La_resolveFrom_0 : decode b_La_resolveFrom 0 = .ok (.aload_n 0, 1) := by decide +kernel
theorem d_La_resolveFrom_1 : decode b_La_resolveFrom 1 = .ok (.iload_n 1, 1) := by decide +kernel
theorem d_La_resolveFrom_2 : decode b_La_resolveFrom 2 = .ok (.iload_n 2, 1) := by decide +kernel
theorem d_La_resolveFrom_3 : decode b_La_resolveFrom 3 = .ok (.iload_n 3, 1) := by decide +kernel
theorem d_La_resolveFrom_4 : decode b_La_resolveFrom 4 = .ok (.invokevirtual 63, 3) := by decide +kernel
theorem d_La_resolveFrom_7 : decode b_La_resolveFrom 7 = .ok (.istore 4, 2) := by decide +kernel
theorem d_La_resolveFrom_9 : decode b_La_resolveFrom 9 = .ok (.iload 4, 2) := by decide +kernel
theorem d_La_resolveFrom_11 : decode b_La_resolveFrom 11 = .ok (.bipush (-3), 2) := by decide +kernel
theorem d_La_resolveFrom_13 : decode b_La_resolveFrom 13 = .ok (.if_icmp .ne 14, 3) := by decide +kernel
theorem d_La_resolveFrom_16 : decode b_La_resolveFrom 16 = .ok (.aload_n 0, 1) := by decide +kernel
theorem d_La_resolveFrom_17 : decode b_La_resolveFrom 17 = .ok (.bipush (-4), 2) := by decide +kernel
theorem d_La_resolveFrom_19 : decode b_La_resolveFrom 19 = .ok (.bipush (-3), 2) := by decide +kernel
theorem d_La_resolveFrom_21 : decode b_La_resolveFrom 21 = .ok (.invokevirtual 148, 3) := by decide +kernel
theorem d_La_resolveFrom_24 : decode b_La_resolveFrom 24 = .ok (.goto 5, 3) := by decide +kernel
theorem d_La_resolveFrom_27 : decode b_La_resolveFrom 27 = .ok (.iload 4, 2) := by decide +kernel
theorem d_La_resolveFrom_29 : decode b_La_resolveFrom 29 = .ok (.ireturn, 1) := by decide +kernel
