theorem d_Lc_init_0 : decode b_Lc_init 0 = .ok (.aload_n 0, 1) := by decide +kernel
theorem d_Lc_init_1 : decode b_Lc_init 1 = .ok (.invokespecial 3, 3) := by decide +kernel
theorem d_Lc_init_4 : decode b_Lc_init 4 = .ok (.aload_n 0, 1) := by decide +kernel
theorem d_Lc_init_5 : decode b_Lc_init 5 = .ok (.iconst 0, 1) := by decide +kernel
theorem d_Lc_init_6 : decode b_Lc_init 6 = .ok (.putfield 9, 3) := by decide +kernel
theorem d_Lc_init_9 : decode b_Lc_init 9 = .ok (.aload_n 0, 1) := by decide +kernel
theorem d_Lc_init_10 : decode b_Lc_init 10 = .ok (.bipush 31, 2) := by decide +kernel
theorem d_Lc_init_12 : decode b_Lc_init 12 = .ok (.newarray .int, 2) := by decide +kernel
theorem d_Lc_init_14 : decode b_Lc_init 14 = .ok (.putfield 13, 3) := by decide +kernel
theorem d_Lc_init_17 : decode b_Lc_init 17 = .ok (.aload_n 0, 1) := by decide +kernel
theorem d_Lc_init_18 : decode b_Lc_init 18 = .ok (.bipush 31, 2) := by decide +kernel
theorem d_Lc_init_20 : decode b_Lc_init 20 = .ok (.newarray .int, 2) := by decide +kernel
theorem d_Lc_init_22 : decode b_Lc_init 22 = .ok (.putfield 17, 3) := by decide +kernel
theorem d_Lc_init_25 : decode b_Lc_init 25 = .ok (.aload_n 0, 1) := by decide +kernel
theorem d_Lc_init_26 : decode b_Lc_init 26 = .ok (.bipush 31, 2) := by decide +kernel
theorem d_Lc_init_28 : decode b_Lc_init 28 = .ok (.newarray .int, 2) := by decide +kernel
theorem d_Lc_init_30 : decode b_Lc_init 30 = .ok (.putfield 20, 3) := by decide +kernel
theorem d_Lc_init_33 : decode b_Lc_init 33 = .ok (.aload_n 0, 1) := by decide +kernel
theorem d_Lc_init_34 : decode b_Lc_init 34 = .ok (.bipush 31, 2) := by decide +kernel
theorem d_Lc_init_36 : decode b_Lc_init 36 = .ok (.newarray .int, 2) := by decide +kernel
theorem d_Lc_init_38 : decode b_Lc_init 38 = .ok (.putfield 23, 3) := by decide +kernel
theorem d_Lc_init_41 : decode b_Lc_init 41 = .ok (.aload_n 0, 1) := by decide +kernel
theorem d_Lc_init_42 : decode b_Lc_init 42 = .ok (.bipush 31, 2) := by decide +kernel
theorem d_Lc_init_44 : decode b_Lc_init 44 = .ok (.newarray .int, 2) := by decide +kernel
theorem d_Lc_init_46 : decode b_Lc_init 46 = .ok (.putfield 26, 3) := by decide +kernel
theorem d_Lc_init_49 : decode b_Lc_init 49 = .ok (.aload_n 0, 1) := by decide +kernel
theorem d_Lc_init_50 : decode b_Lc_init 50 = .ok (.bipush 124, 2) := by decide +kernel
theorem d_Lc_init_52 : decode b_Lc_init 52 = .ok (.newarray .int, 2) := by decide +kernel
theorem d_Lc_init_54 : decode b_Lc_init 54 = .ok (.putfield 29, 3) := by decide +kernel
theorem d_Lc_init_57 : decode b_Lc_init 57 = .ok (.aload_n 0, 1) := by decide +kernel
theorem d_Lc_init_58 : decode b_Lc_init 58 = .ok (.bipush 124, 2) := by decide +kernel
theorem d_Lc_init_60 : decode b_Lc_init 60 = .ok (.newarray .int, 2) := by decide +kernel
theorem d_Lc_init_62 : decode b_Lc_init 62 = .ok (.putfield 32, 3) := by decide +kernel
theorem d_Lc_init_65 : decode b_Lc_init 65 = .ok (.aload_n 0, 1) := by decide +kernel
theorem d_Lc_init_66 : decode b_Lc_init 66 = .ok (.bipush 124, 2) := by decide +kernel
theorem d_Lc_init_68 : decode b_Lc_init 68 = .ok (.newarray .int, 2) := by decide +kernel
theorem d_Lc_init_70 : decode b_Lc_init 70 = .ok (.putfield 35, 3) := by decide +kernel
theorem d_Lc_init_73 : decode b_Lc_init 73 = .ok (.iconst 0, 1) := by decide +kernel
theorem d_Lc_init_74 : decode b_Lc_init 74 = .ok (.istore_n 1, 1) := by decide +kernel
theorem d_Lc_init_75 : decode b_Lc_init 75 = .ok (.iload_n 1, 1) := by decide +kernel
theorem d_Lc_init_76 : decode b_Lc_init 76 = .ok (.bipush 124, 2) := by decide +kernel
theorem d_Lc_init_78 : decode b_Lc_init 78 = .ok (.if_icmp .ge 17, 3) := by decide +kernel
theorem d_Lc_init_81 : decode b_Lc_init 81 = .ok (.aload_n 0, 1) := by decide +kernel
theorem d_Lc_init_82 : decode b_Lc_init 82 = .ok (.getfield 29, 3) := by decide +kernel
theorem d_Lc_init_85 : decode b_Lc_init 85 = .ok (.iload_n 1, 1) := by decide +kernel
theorem d_Lc_init_86 : decode b_Lc_init 86 = .ok (.bipush 8, 2) := by decide +kernel
theorem d_Lc_init_88 : decode b_Lc_init 88 = .ok (.iastore, 1) := by decide +kernel
theorem d_Lc_init_89 : decode b_Lc_init 89 = .ok (.iinc 1 1, 3) := by decide +kernel
theorem d_Lc_init_92 : decode b_Lc_init 92 = .ok (.goto (-17), 3) := by decide +kernel
theorem d_Lc_init_95 : decode b_Lc_init 95 = .ok (.return_, 1) := by decide +kernel
theorem d_Lc_size_0 : decode b_Lc_size 0 = .ok (.aload_n 0, 1) := by decide +kernel
theorem d_Lc_size_1 : decode b_Lc_size 1 = .ok (.getfield 9, 3) := by decide +kernel
theorem d_Lc_size_4 : decode b_Lc_size 4 = .ok (.ireturn, 1) := by decide +kernel
theorem d_Lc_has_0 : decode b_Lc_has 0 = .ok (.iload_n 1, 1) := by decide +kernel
theorem d_Lc_has_1 : decode b_Lc_has 1 = .ok (.iconst 1, 1) := by decide +kernel
theorem d_Lc_has_2 : decode b_Lc_has 2 = .ok (.if_icmp .lt 15, 3) := by decide +kernel
theorem d_Lc_has_5 : decode b_Lc_has 5 = .ok (.iload_n 1, 1) := by decide +kernel
theorem d_Lc_has_6 : decode b_Lc_has 6 = .ok (.aload_n 0, 1) := by decide +kernel
theorem d_Lc_has_7 : decode b_Lc_has 7 = .ok (.getfield 9, 3) := by decide +kernel
theorem d_Lc_has_10 : decode b_Lc_has 10 = .ok (.if_icmp .gt 7, 3) := by decide +kernel
theorem d_Lc_has_13 : decode b_Lc_has 13 = .ok (.iconst 1, 1) := by decide +kernel
theorem d_Lc_has_14 : decode b_Lc_has 14 = .ok (.goto 4, 3) := by decide +kernel
theorem d_Lc_has_17 : decode b_Lc_has 17 = .ok (.iconst 0, 1) := by decide +kernel
theorem d_Lc_has_18 : decode b_Lc_has 18 = .ok (.ireturn, 1) := by decide +kernel
theorem d_Lc_add_0 : decode b_Lc_add 0 = .ok (.aload_n 0, 1) := by decide +kernel
theorem d_Lc_add_1 : decode b_Lc_add 1 = .ok (.dup, 1) := by decide +kernel
theorem d_Lc_add_2 : decode b_Lc_add 2 = .ok (.getfield 9, 3) := by decide +kernel
theorem d_Lc_add_5 : decode b_Lc_add 5 = .ok (.iconst 1, 1) := by decide +kernel
theorem d_Lc_add_6 : decode b_Lc_add 6 = .ok (.iadd, 1) := by decide +kernel
theorem d_Lc_add_7 : decode b_Lc_add 7 = .ok (.putfield 9, 3) := by decide +kernel
theorem d_Lc_add_10 : decode b_Lc_add 10 = .ok (.aload_n 0, 1) := by decide +kernel
theorem d_Lc_add_11 : decode b_Lc_add 11 = .ok (.getfield 13, 3) := by decide +kernel
theorem d_Lc_add_14 : decode b_Lc_add 14 = .ok (.aload_n 0, 1) := by decide +kernel
theorem d_Lc_add_15 : decode b_Lc_add 15 = .ok (.getfield 9, 3) := by decide +kernel
theorem d_Lc_add_18 : decode b_Lc_add 18 = .ok (.iload_n 1, 1) := by decide +kernel
theorem d_Lc_add_19 : decode b_Lc_add 19 = .ok (.iastore, 1) := by decide +kernel
theorem d_Lc_add_20 : decode b_Lc_add 20 = .ok (.aload_n 0, 1) := by decide +kernel
theorem d_Lc_add_21 : decode b_Lc_add 21 = .ok (.getfield 17, 3) := by decide +kernel
theorem d_Lc_add_24 : decode b_Lc_add 24 = .ok (.aload_n 0, 1) := by decide +kernel
theorem d_Lc_add_25 : decode b_Lc_add 25 = .ok (.getfield 9, 3) := by decide +kernel
theorem d_Lc_add_28 : decode b_Lc_add 28 = .ok (.iload_n 2, 1) := by decide +kernel
theorem d_Lc_add_29 : decode b_Lc_add 29 = .ok (.iastore, 1) := by decide +kernel
theorem d_Lc_add_30 : decode b_Lc_add 30 = .ok (.aload_n 0, 1) := by decide +kernel
theorem d_Lc_add_31 : decode b_Lc_add 31 = .ok (.getfield 20, 3) := by decide +kernel
theorem d_Lc_add_34 : decode b_Lc_add 34 = .ok (.aload_n 0, 1) := by decide +kernel
theorem d_Lc_add_35 : decode b_Lc_add 35 = .ok (.getfield 9, 3) := by decide +kernel
theorem d_Lc_add_38 : decode b_Lc_add 38 = .ok (.iload_n 3, 1) := by decide +kernel
theorem d_Lc_add_39 : decode b_Lc_add 39 = .ok (.iastore, 1) := by decide +kernel
theorem d_Lc_add_40 : decode b_Lc_add 40 = .ok (.aload_n 0, 1) := by decide +kernel
theorem d_Lc_add_41 : decode b_Lc_add 41 = .ok (.getfield 23, 3) := by decide +kernel
theorem d_Lc_add_44 : decode b_Lc_add 44 = .ok (.aload_n 0, 1) := by decide +kernel
theorem d_Lc_add_45 : decode b_Lc_add 45 = .ok (.getfield 9, 3) := by decide +kernel
theorem d_Lc_add_48 : decode b_Lc_add 48 = .ok (.iload 4, 2) := by decide +kernel
theorem d_Lc_add_50 : decode b_Lc_add 50 = .ok (.iastore, 1) := by decide +kernel
theorem d_Lc_add_51 : decode b_Lc_add 51 = .ok (.aload_n 0, 1) := by decide +kernel
theorem d_Lc_add_52 : decode b_Lc_add 52 = .ok (.getfield 26, 3) := by decide +kernel
theorem d_Lc_add_55 : decode b_Lc_add 55 = .ok (.aload_n 0, 1) := by decide +kernel
theorem d_Lc_add_56 : decode b_Lc_add 56 = .ok (.getfield 9, 3) := by decide +kernel
theorem d_Lc_add_59 : decode b_Lc_add 59 = .ok (.iload 5, 2) := by decide +kernel
theorem d_Lc_add_61 : decode b_Lc_add 61 = .ok (.iastore, 1) := by decide +kernel
theorem d_Lc_add_62 : decode b_Lc_add 62 = .ok (.aload_n 0, 1) := by decide +kernel
theorem d_Lc_add_63 : decode b_Lc_add 63 = .ok (.getfield 9, 3) := by decide +kernel
theorem d_Lc_add_66 : decode b_Lc_add 66 = .ok (.ireturn, 1) := by decide +kernel
theorem d_Lc_nameOf_0 : decode b_Lc_nameOf 0 = .ok (.aload_n 0, 1) := by decide +kernel
theorem d_Lc_nameOf_1 : decode b_Lc_nameOf 1 = .ok (.getfield 13, 3) := by decide +kernel
theorem d_Lc_nameOf_4 : decode b_Lc_nameOf 4 = .ok (.iload_n 1, 1) := by decide +kernel
theorem d_Lc_nameOf_5 : decode b_Lc_nameOf 5 = .ok (.iaload, 1) := by decide +kernel
theorem d_Lc_nameOf_6 : decode b_Lc_nameOf 6 = .ok (.ireturn, 1) := by decide +kernel
theorem d_Lc_loaderOf_0 : decode b_Lc_loaderOf 0 = .ok (.aload_n 0, 1) := by decide +kernel
theorem d_Lc_loaderOf_1 : decode b_Lc_loaderOf 1 = .ok (.getfield 17, 3) := by decide +kernel
theorem d_Lc_loaderOf_4 : decode b_Lc_loaderOf 4 = .ok (.iload_n 1, 1) := by decide +kernel
theorem d_Lc_loaderOf_5 : decode b_Lc_loaderOf 5 = .ok (.iaload, 1) := by decide +kernel
theorem d_Lc_loaderOf_6 : decode b_Lc_loaderOf 6 = .ok (.ireturn, 1) := by decide +kernel
theorem d_Lc_superclassOf_0 : decode b_Lc_superclassOf 0 = .ok (.aload_n 0, 1) := by decide +kernel
theorem d_Lc_superclassOf_1 : decode b_Lc_superclassOf 1 = .ok (.getfield 20, 3) := by decide +kernel
theorem d_Lc_superclassOf_4 : decode b_Lc_superclassOf 4 = .ok (.iload_n 1, 1) := by decide +kernel
theorem d_Lc_superclassOf_5 : decode b_Lc_superclassOf 5 = .ok (.iaload, 1) := by decide +kernel
theorem d_Lc_superclassOf_6 : decode b_Lc_superclassOf 6 = .ok (.ireturn, 1) := by decide +kernel
theorem d_Lc_interfaceOf_0 : decode b_Lc_interfaceOf 0 = .ok (.aload_n 0, 1) := by decide +kernel
theorem d_Lc_interfaceOf_1 : decode b_Lc_interfaceOf 1 = .ok (.getfield 23, 3) := by decide +kernel
theorem d_Lc_interfaceOf_4 : decode b_Lc_interfaceOf 4 = .ok (.iload_n 1, 1) := by decide +kernel
theorem d_Lc_interfaceOf_5 : decode b_Lc_interfaceOf 5 = .ok (.iaload, 1) := by decide +kernel
theorem d_Lc_interfaceOf_6 : decode b_Lc_interfaceOf 6 = .ok (.ireturn, 1) := by decide +kernel
theorem d_Lc_marksOf_0 : decode b_Lc_marksOf 0 = .ok (.aload_n 0, 1) := by decide +kernel
theorem d_Lc_marksOf_1 : decode b_Lc_marksOf 1 = .ok (.getfield 26, 3) := by decide +kernel
theorem d_Lc_marksOf_4 : decode b_Lc_marksOf 4 = .ok (.iload_n 1, 1) := by decide +kernel
theorem d_Lc_marksOf_5 : decode b_Lc_marksOf 5 = .ok (.iaload, 1) := by decide +kernel
theorem d_Lc_marksOf_6 : decode b_Lc_marksOf 6 = .ok (.ireturn, 1) := by decide +kernel
theorem d_Lc_leadsTo_0 : decode b_Lc_leadsTo 0 = .ok (.iconst 1, 1) := by decide +kernel
theorem d_Lc_leadsTo_1 : decode b_Lc_leadsTo 1 = .ok (.iload_n 1, 1) := by decide +kernel
theorem d_Lc_leadsTo_2 : decode b_Lc_leadsTo 2 = .ok (.ishl, 1) := by decide +kernel
theorem d_Lc_leadsTo_3 : decode b_Lc_leadsTo 3 = .ok (.istore_n 3, 1) := by decide +kernel
theorem d_Lc_leadsTo_4 : decode b_Lc_leadsTo 4 = .ok (.iload_n 1, 1) := by decide +kernel
theorem d_Lc_leadsTo_5 : decode b_Lc_leadsTo 5 = .ok (.istore 4, 2) := by decide +kernel
theorem d_Lc_leadsTo_7 : decode b_Lc_leadsTo 7 = .ok (.iload 4, 2) := by decide +kernel
theorem d_Lc_leadsTo_9 : decode b_Lc_leadsTo 9 = .ok (.iload_n 2, 1) := by decide +kernel
theorem d_Lc_leadsTo_10 : decode b_Lc_leadsTo 10 = .ok (.if_icmp .le 40, 3) := by decide +kernel
theorem d_Lc_leadsTo_13 : decode b_Lc_leadsTo 13 = .ok (.iload_n 3, 1) := by decide +kernel
theorem d_Lc_leadsTo_14 : decode b_Lc_leadsTo 14 = .ok (.iload 4, 2) := by decide +kernel
theorem d_Lc_leadsTo_16 : decode b_Lc_leadsTo 16 = .ok (.ishr, 1) := by decide +kernel
theorem d_Lc_leadsTo_17 : decode b_Lc_leadsTo 17 = .ok (.iconst 1, 1) := by decide +kernel
theorem d_Lc_leadsTo_18 : decode b_Lc_leadsTo 18 = .ok (.iand, 1) := by decide +kernel
theorem d_Lc_leadsTo_19 : decode b_Lc_leadsTo 19 = .ok (.ifCond .eq 25, 3) := by decide +kernel
theorem d_Lc_leadsTo_22 : decode b_Lc_leadsTo 22 = .ok (.iload_n 3, 1) := by decide +kernel
theorem d_Lc_leadsTo_23 : decode b_Lc_leadsTo 23 = .ok (.iconst 1, 1) := by decide +kernel
theorem d_Lc_leadsTo_24 : decode b_Lc_leadsTo 24 = .ok (.aload_n 0, 1) := by decide +kernel
theorem d_Lc_leadsTo_25 : decode b_Lc_leadsTo 25 = .ok (.getfield 20, 3) := by decide +kernel
theorem d_Lc_leadsTo_28 : decode b_Lc_leadsTo 28 = .ok (.iload 4, 2) := by decide +kernel
theorem d_Lc_leadsTo_30 : decode b_Lc_leadsTo 30 = .ok (.iaload, 1) := by decide +kernel
theorem d_Lc_leadsTo_31 : decode b_Lc_leadsTo 31 = .ok (.ishl, 1) := by decide +kernel
theorem d_Lc_leadsTo_32 : decode b_Lc_leadsTo 32 = .ok (.iconst 1, 1) := by decide +kernel
theorem d_Lc_leadsTo_33 : decode b_Lc_leadsTo 33 = .ok (.aload_n 0, 1) := by decide +kernel
theorem d_Lc_leadsTo_34 : decode b_Lc_leadsTo 34 = .ok (.getfield 23, 3) := by decide +kernel
theorem d_Lc_leadsTo_37 : decode b_Lc_leadsTo 37 = .ok (.iload 4, 2) := by decide +kernel
theorem d_Lc_leadsTo_39 : decode b_Lc_leadsTo 39 = .ok (.iaload, 1) := by decide +kernel
theorem d_Lc_leadsTo_40 : decode b_Lc_leadsTo 40 = .ok (.ishl, 1) := by decide +kernel
theorem d_Lc_leadsTo_41 : decode b_Lc_leadsTo 41 = .ok (.ior, 1) := by decide +kernel
theorem d_Lc_leadsTo_42 : decode b_Lc_leadsTo 42 = .ok (.ior, 1) := by decide +kernel
theorem d_Lc_leadsTo_43 : decode b_Lc_leadsTo 43 = .ok (.istore_n 3, 1) := by decide +kernel
theorem d_Lc_leadsTo_44 : decode b_Lc_leadsTo 44 = .ok (.iinc 4 (-1), 3) := by decide +kernel
theorem d_Lc_leadsTo_47 : decode b_Lc_leadsTo 47 = .ok (.goto (-40), 3) := by decide +kernel
theorem d_Lc_leadsTo_50 : decode b_Lc_leadsTo 50 = .ok (.iload_n 3, 1) := by decide +kernel
theorem d_Lc_leadsTo_51 : decode b_Lc_leadsTo 51 = .ok (.iload_n 2, 1) := by decide +kernel
theorem d_Lc_leadsTo_52 : decode b_Lc_leadsTo 52 = .ok (.ishr, 1) := by decide +kernel
theorem d_Lc_leadsTo_53 : decode b_Lc_leadsTo 53 = .ok (.iconst 1, 1) := by decide +kernel
theorem d_Lc_leadsTo_54 : decode b_Lc_leadsTo 54 = .ok (.iand, 1) := by decide +kernel
theorem d_Lc_leadsTo_55 : decode b_Lc_leadsTo 55 = .ok (.ifCond .eq 7, 3) := by decide +kernel
theorem d_Lc_leadsTo_58 : decode b_Lc_leadsTo 58 = .ok (.iconst 1, 1) := by decide +kernel
theorem d_Lc_leadsTo_59 : decode b_Lc_leadsTo 59 = .ok (.goto 4, 3) := by decide +kernel
theorem d_Lc_leadsTo_62 : decode b_Lc_leadsTo 62 = .ok (.iconst 0, 1) := by decide +kernel
theorem d_Lc_leadsTo_63 : decode b_Lc_leadsTo 63 = .ok (.ireturn, 1) := by decide +kernel
theorem d_Lc_hasPlace_0 : decode b_Lc_hasPlace 0 = .ok (.aload_n 0, 1) := by decide +kernel
theorem d_Lc_hasPlace_1 : decode b_Lc_hasPlace 1 = .ok (.iload_n 1, 1) := by decide +kernel
theorem d_Lc_hasPlace_2 : decode b_Lc_hasPlace 2 = .ok (.invokevirtual 40, 3) := by decide +kernel
theorem d_Lc_hasPlace_5 : decode b_Lc_hasPlace 5 = .ok (.ifCond .eq 16, 3) := by decide +kernel
theorem d_Lc_hasPlace_8 : decode b_Lc_hasPlace 8 = .ok (.iload_n 2, 1) := by decide +kernel
theorem d_Lc_hasPlace_9 : decode b_Lc_hasPlace 9 = .ok (.ifCond .lt 12, 3) := by decide +kernel
theorem d_Lc_hasPlace_12 : decode b_Lc_hasPlace 12 = .ok (.iload_n 2, 1) := by decide +kernel
theorem d_Lc_hasPlace_13 : decode b_Lc_hasPlace 13 = .ok (.iconst 4, 1) := by decide +kernel
theorem d_Lc_hasPlace_14 : decode b_Lc_hasPlace 14 = .ok (.if_icmp .ge 7, 3) := by decide +kernel
theorem d_Lc_hasPlace_17 : decode b_Lc_hasPlace 17 = .ok (.iconst 1, 1) := by decide +kernel
theorem d_Lc_hasPlace_18 : decode b_Lc_hasPlace 18 = .ok (.goto 4, 3) := by decide +kernel
theorem d_Lc_hasPlace_21 : decode b_Lc_hasPlace 21 = .ok (.iconst 0, 1) := by decide +kernel
theorem d_Lc_hasPlace_22 : decode b_Lc_hasPlace 22 = .ok (.ireturn, 1) := by decide +kernel
theorem d_Lc_hasReference_0 : decode b_Lc_hasReference 0 = .ok (.aload_n 0, 1) := by decide +kernel
theorem d_Lc_hasReference_1 : decode b_Lc_hasReference 1 = .ok (.iload_n 1, 1) := by decide +kernel
theorem d_Lc_hasReference_2 : decode b_Lc_hasReference 2 = .ok (.iload_n 2, 1) := by decide +kernel
theorem d_Lc_hasReference_3 : decode b_Lc_hasReference 3 = .ok (.invokevirtual 44, 3) := by decide +kernel
theorem d_Lc_hasReference_6 : decode b_Lc_hasReference 6 = .ok (.bipush 8, 2) := by decide +kernel
theorem d_Lc_hasReference_8 : decode b_Lc_hasReference 8 = .ok (.if_icmp .eq 7, 3) := by decide +kernel
theorem d_Lc_hasReference_11 : decode b_Lc_hasReference 11 = .ok (.iconst 1, 1) := by decide +kernel
theorem d_Lc_hasReference_12 : decode b_Lc_hasReference 12 = .ok (.goto 4, 3) := by decide +kernel
theorem d_Lc_hasReference_15 : decode b_Lc_hasReference 15 = .ok (.iconst 0, 1) := by decide +kernel
theorem d_Lc_hasReference_16 : decode b_Lc_hasReference 16 = .ok (.ireturn, 1) := by decide +kernel
theorem d_Lc_referredName_0 : decode b_Lc_referredName 0 = .ok (.aload_n 0, 1) := by decide +kernel
theorem d_Lc_referredName_1 : decode b_Lc_referredName 1 = .ok (.getfield 29, 3) := by decide +kernel
theorem d_Lc_referredName_4 : decode b_Lc_referredName 4 = .ok (.iload_n 1, 1) := by decide +kernel
theorem d_Lc_referredName_5 : decode b_Lc_referredName 5 = .ok (.iload_n 2, 1) := by decide +kernel
theorem d_Lc_referredName_6 : decode b_Lc_referredName 6 = .ok (.invokestatic 48, 3) := by decide +kernel
theorem d_Lc_referredName_9 : decode b_Lc_referredName 9 = .ok (.iaload, 1) := by decide +kernel
theorem d_Lc_referredName_10 : decode b_Lc_referredName 10 = .ok (.ireturn, 1) := by decide +kernel
theorem d_Lc_setReference_0 : decode b_Lc_setReference 0 = .ok (.aload_n 0, 1) := by decide +kernel
theorem d_Lc_setReference_1 : decode b_Lc_setReference 1 = .ok (.getfield 29, 3) := by decide +kernel
theorem d_Lc_setReference_4 : decode b_Lc_setReference 4 = .ok (.iload_n 1, 1) := by decide +kernel
theorem d_Lc_setReference_5 : decode b_Lc_setReference 5 = .ok (.iload_n 2, 1) := by decide +kernel
theorem d_Lc_setReference_6 : decode b_Lc_setReference 6 = .ok (.invokestatic 48, 3) := by decide +kernel
theorem d_Lc_setReference_9 : decode b_Lc_setReference 9 = .ok (.iload_n 3, 1) := by decide +kernel
theorem d_Lc_setReference_10 : decode b_Lc_setReference 10 = .ok (.iastore, 1) := by decide +kernel
theorem d_Lc_setReference_11 : decode b_Lc_setReference 11 = .ok (.return_, 1) := by decide +kernel
theorem d_Lc_keptFor_0 : decode b_Lc_keptFor 0 = .ok (.aload_n 0, 1) := by decide +kernel
theorem d_Lc_keptFor_1 : decode b_Lc_keptFor 1 = .ok (.getfield 32, 3) := by decide +kernel
theorem d_Lc_keptFor_4 : decode b_Lc_keptFor 4 = .ok (.iload_n 1, 1) := by decide +kernel
theorem d_Lc_keptFor_5 : decode b_Lc_keptFor 5 = .ok (.iload_n 2, 1) := by decide +kernel
theorem d_Lc_keptFor_6 : decode b_Lc_keptFor 6 = .ok (.invokestatic 48, 3) := by decide +kernel
theorem d_Lc_keptFor_9 : decode b_Lc_keptFor 9 = .ok (.iaload, 1) := by decide +kernel
theorem d_Lc_keptFor_10 : decode b_Lc_keptFor 10 = .ok (.ireturn, 1) := by decide +kernel
theorem d_Lc_keptCause_0 : decode b_Lc_keptCause 0 = .ok (.aload_n 0, 1) := by decide +kernel
theorem d_Lc_keptCause_1 : decode b_Lc_keptCause 1 = .ok (.getfield 35, 3) := by decide +kernel
theorem d_Lc_keptCause_4 : decode b_Lc_keptCause 4 = .ok (.iload_n 1, 1) := by decide +kernel
theorem d_Lc_keptCause_5 : decode b_Lc_keptCause 5 = .ok (.iload_n 2, 1) := by decide +kernel
theorem d_Lc_keptCause_6 : decode b_Lc_keptCause 6 = .ok (.invokestatic 48, 3) := by decide +kernel
theorem d_Lc_keptCause_9 : decode b_Lc_keptCause 9 = .ok (.iaload, 1) := by decide +kernel
theorem d_Lc_keptCause_10 : decode b_Lc_keptCause 10 = .ok (.ireturn, 1) := by decide +kernel
theorem d_Lc_keep_0 : decode b_Lc_keep 0 = .ok (.aload_n 0, 1) := by decide +kernel
theorem d_Lc_keep_1 : decode b_Lc_keep 1 = .ok (.getfield 32, 3) := by decide +kernel
theorem d_Lc_keep_4 : decode b_Lc_keep 4 = .ok (.iload_n 1, 1) := by decide +kernel
theorem d_Lc_keep_5 : decode b_Lc_keep 5 = .ok (.iload_n 2, 1) := by decide +kernel
theorem d_Lc_keep_6 : decode b_Lc_keep 6 = .ok (.invokestatic 48, 3) := by decide +kernel
theorem d_Lc_keep_9 : decode b_Lc_keep 9 = .ok (.iload_n 3, 1) := by decide +kernel
theorem d_Lc_keep_10 : decode b_Lc_keep 10 = .ok (.iastore, 1) := by decide +kernel
theorem d_Lc_keep_11 : decode b_Lc_keep 11 = .ok (.aload_n 0, 1) := by decide +kernel
theorem d_Lc_keep_12 : decode b_Lc_keep 12 = .ok (.getfield 35, 3) := by decide +kernel
theorem d_Lc_keep_15 : decode b_Lc_keep 15 = .ok (.iload_n 1, 1) := by decide +kernel
theorem d_Lc_keep_16 : decode b_Lc_keep 16 = .ok (.iload_n 2, 1) := by decide +kernel
theorem d_Lc_keep_17 : decode b_Lc_keep 17 = .ok (.invokestatic 48, 3) := by decide +kernel
theorem d_Lc_keep_20 : decode b_Lc_keep 20 = .ok (.iload 4, 2) := by decide +kernel
theorem d_Lc_keep_22 : decode b_Lc_keep 22 = .ok (.iastore, 1) := by decide +kernel
theorem d_Lc_keep_23 : decode b_Lc_keep 23 = .ok (.return_, 1) := by decide +kernel
theorem d_Lc_place_0 : decode b_Lc_place 0 = .ok (.iload_n 0, 1) := by decide +kernel
theorem d_Lc_place_1 : decode b_Lc_place 1 = .ok (.iconst 4, 1) := by decide +kernel
theorem d_Lc_place_2 : decode b_Lc_place 2 = .ok (.imul, 1) := by decide +kernel
theorem d_Lc_place_3 : decode b_Lc_place 3 = .ok (.iload_n 1, 1) := by decide +kernel
theorem d_Lc_place_4 : decode b_Lc_place 4 = .ok (.iadd, 1) := by decide +kernel
theorem d_Lc_place_5 : decode b_Lc_place 5 = .ok (.ireturn, 1) := by decide +kernel
theorem d_Lb_init_0 : decode b_Lb_init 0 = .ok (.aload_n 0, 1) := by decide +kernel
theorem d_Lb_init_1 : decode b_Lb_init 1 = .ok (.invokespecial 5, 3) := by decide +kernel
theorem d_Lb_init_4 : decode b_Lb_init 4 = .ok (.aload_n 0, 1) := by decide +kernel
theorem d_Lb_init_5 : decode b_Lb_init 5 = .ok (.iconst 5, 1) := by decide +kernel
theorem d_Lb_init_6 : decode b_Lb_init 6 = .ok (.newarray .int, 2) := by decide +kernel
theorem d_Lb_init_8 : decode b_Lb_init 8 = .ok (.putfield 11, 3) := by decide +kernel
theorem d_Lb_init_11 : decode b_Lb_init 11 = .ok (.aload_n 0, 1) := by decide +kernel
theorem d_Lb_init_12 : decode b_Lb_init 12 = .ok (.bipush 40, 2) := by decide +kernel
theorem d_Lb_init_14 : decode b_Lb_init 14 = .ok (.newarray .int, 2) := by decide +kernel
theorem d_Lb_init_16 : decode b_Lb_init 16 = .ok (.putfield 15, 3) := by decide +kernel
theorem d_Lb_init_19 : decode b_Lb_init 19 = .ok (.aload_n 0, 1) := by decide +kernel
theorem d_Lb_init_20 : decode b_Lb_init 20 = .ok (.bipush 40, 2) := by decide +kernel
theorem d_Lb_init_22 : decode b_Lb_init 22 = .ok (.newarray .int, 2) := by decide +kernel
theorem d_Lb_init_24 : decode b_Lb_init 24 = .ok (.putfield 18, 3) := by decide +kernel
theorem d_Lb_init_27 : decode b_Lb_init 27 = .ok (.aload_n 0, 1) := by decide +kernel
theorem d_Lb_init_28 : decode b_Lb_init 28 = .ok (.bipush 40, 2) := by decide +kernel
theorem d_Lb_init_30 : decode b_Lb_init 30 = .ok (.newarray .int, 2) := by decide +kernel
theorem d_Lb_init_32 : decode b_Lb_init 32 = .ok (.putfield 21, 3) := by decide +kernel
theorem d_Lb_init_35 : decode b_Lb_init 35 = .ok (.aload_n 0, 1) := by decide +kernel
theorem d_Lb_init_36 : decode b_Lb_init 36 = .ok (.bipush 40, 2) := by decide +kernel
theorem d_Lb_init_38 : decode b_Lb_init 38 = .ok (.newarray .int, 2) := by decide +kernel
theorem d_Lb_init_40 : decode b_Lb_init 40 = .ok (.putfield 24, 3) := by decide +kernel
theorem d_Lb_init_43 : decode b_Lb_init 43 = .ok (.aload_n 0, 1) := by decide +kernel
theorem d_Lb_init_44 : decode b_Lb_init 44 = .ok (.bipush 40, 2) := by decide +kernel
theorem d_Lb_init_46 : decode b_Lb_init 46 = .ok (.newarray .int, 2) := by decide +kernel
theorem d_Lb_init_48 : decode b_Lb_init 48 = .ok (.putfield 27, 3) := by decide +kernel
theorem d_Lb_init_51 : decode b_Lb_init 51 = .ok (.aload_n 0, 1) := by decide +kernel
theorem d_Lb_init_52 : decode b_Lb_init 52 = .ok (.bipush 40, 2) := by decide +kernel
theorem d_Lb_init_54 : decode b_Lb_init 54 = .ok (.newarray .boolean, 2) := by decide +kernel
theorem d_Lb_init_56 : decode b_Lb_init 56 = .ok (.putfield 30, 3) := by decide +kernel
theorem d_Lb_init_59 : decode b_Lb_init 59 = .ok (.aload_n 0, 1) := by decide +kernel
theorem d_Lb_init_60 : decode b_Lb_init 60 = .ok (.bipush 40, 2) := by decide +kernel
theorem d_Lb_init_62 : decode b_Lb_init 62 = .ok (.newarray .int, 2) := by decide +kernel
theorem d_Lb_init_64 : decode b_Lb_init 64 = .ok (.putfield 34, 3) := by decide +kernel
theorem d_Lb_init_67 : decode b_Lb_init 67 = .ok (.iconst 0, 1) := by decide +kernel
theorem d_Lb_init_68 : decode b_Lb_init 68 = .ok (.istore_n 1, 1) := by decide +kernel
theorem d_Lb_init_69 : decode b_Lb_init 69 = .ok (.iload_n 1, 1) := by decide +kernel
theorem d_Lb_init_70 : decode b_Lb_init 70 = .ok (.iconst 5, 1) := by decide +kernel
theorem d_Lb_init_71 : decode b_Lb_init 71 = .ok (.if_icmp .ge 16, 3) := by decide +kernel
theorem d_Lb_init_74 : decode b_Lb_init 74 = .ok (.aload_n 0, 1) := by decide +kernel
theorem d_Lb_init_75 : decode b_Lb_init 75 = .ok (.getfield 11, 3) := by decide +kernel
theorem d_Lb_init_78 : decode b_Lb_init 78 = .ok (.iload_n 1, 1) := by decide +kernel
theorem d_Lb_init_79 : decode b_Lb_init 79 = .ok (.iconst (-1), 1) := by decide +kernel
theorem d_Lb_init_80 : decode b_Lb_init 80 = .ok (.iastore, 1) := by decide +kernel
theorem d_Lb_init_81 : decode b_Lb_init 81 = .ok (.iinc 1 1, 3) := by decide +kernel
theorem d_Lb_init_84 : decode b_Lb_init 84 = .ok (.goto (-15), 3) := by decide +kernel
theorem d_Lb_init_87 : decode b_Lb_init 87 = .ok (.iconst 0, 1) := by decide +kernel
theorem d_Lb_init_88 : decode b_Lb_init 88 = .ok (.istore_n 1, 1) := by decide +kernel
theorem d_Lb_init_89 : decode b_Lb_init 89 = .ok (.iload_n 1, 1) := by decide +kernel
theorem d_Lb_init_90 : decode b_Lb_init 90 = .ok (.bipush 40, 2) := by decide +kernel
theorem d_Lb_init_92 : decode b_Lb_init 92 = .ok (.if_icmp .ge 28, 3) := by decide +kernel
theorem d_Lb_init_95 : decode b_Lb_init 95 = .ok (.aload_n 0, 1) := by decide +kernel
theorem d_Lb_init_96 : decode b_Lb_init 96 = .ok (.getfield 15, 3) := by decide +kernel
theorem d_Lb_init_99 : decode b_Lb_init 99 = .ok (.iload_n 1, 1) := by decide +kernel
theorem d_Lb_init_100 : decode b_Lb_init 100 = .ok (.iconst (-1), 1) := by decide +kernel
theorem d_Lb_init_101 : decode b_Lb_init 101 = .ok (.iastore, 1) := by decide +kernel
theorem d_Lb_init_102 : decode b_Lb_init 102 = .ok (.aload_n 0, 1) := by decide +kernel
theorem d_Lb_init_103 : decode b_Lb_init 103 = .ok (.getfield 34, 3) := by decide +kernel
theorem d_Lb_init_106 : decode b_Lb_init 106 = .ok (.iload_n 1, 1) := by decide +kernel
theorem d_Lb_init_107 : decode b_Lb_init 107 = .ok (.iconst 1, 1) := by decide +kernel
theorem d_Lb_init_108 : decode b_Lb_init 108 = .ok (.iload_n 1, 1) := by decide +kernel
theorem d_Lb_init_109 : decode b_Lb_init 109 = .ok (.bipush 8, 2) := by decide +kernel
theorem d_Lb_init_111 : decode b_Lb_init 111 = .ok (.idiv, 1) := by decide +kernel
theorem d_Lb_init_112 : decode b_Lb_init 112 = .ok (.ishl, 1) := by decide +kernel
theorem d_Lb_init_113 : decode b_Lb_init 113 = .ok (.iastore, 1) := by decide +kernel
theorem d_Lb_init_114 : decode b_Lb_init 114 = .ok (.iinc 1 1, 3) := by decide +kernel
theorem d_Lb_init_117 : decode b_Lb_init 117 = .ok (.goto (-28), 3) := by decide +kernel
theorem d_Lb_init_120 : decode b_Lb_init 120 = .ok (.return_, 1) := by decide +kernel
theorem d_Lb_isLoader_0 : decode b_Lb_isLoader 0 = .ok (.iload_n 0, 1) := by decide +kernel
theorem d_Lb_isLoader_1 : decode b_Lb_isLoader 1 = .ok (.ifCond .lt 12, 3) := by decide +kernel
theorem d_Lb_isLoader_4 : decode b_Lb_isLoader 4 = .ok (.iload_n 0, 1) := by decide +kernel
theorem d_Lb_isLoader_5 : decode b_Lb_isLoader 5 = .ok (.iconst 5, 1) := by decide +kernel
theorem d_Lb_isLoader_6 : decode b_Lb_isLoader 6 = .ok (.if_icmp .ge 7, 3) := by decide +kernel
theorem d_Lb_isLoader_9 : decode b_Lb_isLoader 9 = .ok (.iconst 1, 1) := by decide +kernel
theorem d_Lb_isLoader_10 : decode b_Lb_isLoader 10 = .ok (.goto 4, 3) := by decide +kernel
theorem d_Lb_isLoader_13 : decode b_Lb_isLoader 13 = .ok (.iconst 0, 1) := by decide +kernel
theorem d_Lb_isLoader_14 : decode b_Lb_isLoader 14 = .ok (.ireturn, 1) := by decide +kernel
theorem d_Lb_isName_0 : decode b_Lb_isName 0 = .ok (.iload_n 0, 1) := by decide +kernel
theorem d_Lb_isName_1 : decode b_Lb_isName 1 = .ok (.ifCond .lt 13, 3) := by decide +kernel
theorem d_Lb_isName_4 : decode b_Lb_isName 4 = .ok (.iload_n 0, 1) := by decide +kernel
theorem d_Lb_isName_5 : decode b_Lb_isName 5 = .ok (.bipush 8, 2) := by decide +kernel
theorem d_Lb_isName_7 : decode b_Lb_isName 7 = .ok (.if_icmp .ge 7, 3) := by decide +kernel
theorem d_Lb_isName_10 : decode b_Lb_isName 10 = .ok (.iconst 1, 1) := by decide +kernel
theorem d_Lb_isName_11 : decode b_Lb_isName 11 = .ok (.goto 4, 3) := by decide +kernel
theorem d_Lb_isName_14 : decode b_Lb_isName 14 = .ok (.iconst 0, 1) := by decide +kernel
theorem d_Lb_isName_15 : decode b_Lb_isName 15 = .ok (.ireturn, 1) := by decide +kernel
theorem d_Lb_inRange_0 : decode b_Lb_inRange 0 = .ok (.iload_n 0, 1) := by decide +kernel
theorem d_Lb_inRange_1 : decode b_Lb_inRange 1 = .ok (.invokestatic 37, 3) := by decide +kernel
theorem d_Lb_inRange_4 : decode b_Lb_inRange 4 = .ok (.ifCond .eq 14, 3) := by decide +kernel
theorem d_Lb_inRange_7 : decode b_Lb_inRange 7 = .ok (.iload_n 1, 1) := by decide +kernel
theorem d_Lb_inRange_8 : decode b_Lb_inRange 8 = .ok (.invokestatic 41, 3) := by decide +kernel
theorem d_Lb_inRange_11 : decode b_Lb_inRange 11 = .ok (.ifCond .eq 7, 3) := by decide +kernel
theorem d_Lb_inRange_14 : decode b_Lb_inRange 14 = .ok (.iconst 1, 1) := by decide +kernel
theorem d_Lb_inRange_15 : decode b_Lb_inRange 15 = .ok (.goto 4, 3) := by decide +kernel
theorem d_Lb_inRange_18 : decode b_Lb_inRange 18 = .ok (.iconst 0, 1) := by decide +kernel
theorem d_Lb_inRange_19 : decode b_Lb_inRange 19 = .ok (.ireturn, 1) := by decide +kernel
theorem d_Lb_isFile_0 : decode b_Lb_isFile 0 = .ok (.iload_n 0, 1) := by decide +kernel
theorem d_Lb_isFile_1 : decode b_Lb_isFile 1 = .ok (.ifCond .lt 34, 3) := by decide +kernel
theorem d_Lb_isFile_4 : decode b_Lb_isFile 4 = .ok (.iload_n 0, 1) := by decide +kernel
theorem d_Lb_isFile_5 : decode b_Lb_isFile 5 = .ok (.sipush 728, 3) := by decide +kernel
theorem d_Lb_isFile_8 : decode b_Lb_isFile 8 = .ok (.if_icmp .gt 27, 3) := by decide +kernel
theorem d_Lb_isFile_11 : decode b_Lb_isFile 11 = .ok (.iload_n 0, 1) := by decide +kernel
theorem d_Lb_isFile_12 : decode b_Lb_isFile 12 = .ok (.bipush 9, 2) := by decide +kernel
theorem d_Lb_isFile_14 : decode b_Lb_isFile 14 = .ok (.irem, 1) := by decide +kernel
theorem d_Lb_isFile_15 : decode b_Lb_isFile 15 = .ok (.invokestatic 41, 3) := by decide +kernel
theorem d_Lb_isFile_18 : decode b_Lb_isFile 18 = .ok (.ifCond .eq 17, 3) := by decide +kernel
theorem d_Lb_isFile_21 : decode b_Lb_isFile 21 = .ok (.iload_n 1, 1) := by decide +kernel
theorem d_Lb_isFile_22 : decode b_Lb_isFile 22 = .ok (.ifCond .lt 13, 3) := by decide +kernel
theorem d_Lb_isFile_25 : decode b_Lb_isFile 25 = .ok (.iload_n 1, 1) := by decide +kernel
theorem d_Lb_isFile_26 : decode b_Lb_isFile 26 = .ok (.bipush 7, 2) := by decide +kernel
theorem d_Lb_isFile_28 : decode b_Lb_isFile 28 = .ok (.if_icmp .gt 7, 3) := by decide +kernel
theorem d_Lb_isFile_31 : decode b_Lb_isFile 31 = .ok (.iconst 1, 1) := by decide +kernel
theorem d_Lb_isFile_32 : decode b_Lb_isFile 32 = .ok (.goto 4, 3) := by decide +kernel
theorem d_Lb_isFile_35 : decode b_Lb_isFile 35 = .ok (.iconst 0, 1) := by decide +kernel
theorem d_Lb_isFile_36 : decode b_Lb_isFile 36 = .ok (.ireturn, 1) := by decide +kernel
theorem d_Lb_cell_0 : decode b_Lb_cell 0 = .ok (.iload_n 0, 1) := by decide +kernel
theorem d_Lb_cell_1 : decode b_Lb_cell 1 = .ok (.bipush 8, 2) := by decide +kernel
theorem d_Lb_cell_3 : decode b_Lb_cell 3 = .ok (.imul, 1) := by decide +kernel
theorem d_Lb_cell_4 : decode b_Lb_cell 4 = .ok (.iload_n 1, 1) := by decide +kernel
theorem d_Lb_cell_5 : decode b_Lb_cell 5 = .ok (.iadd, 1) := by decide +kernel
theorem d_Lb_cell_6 : decode b_Lb_cell 6 = .ok (.ireturn, 1) := by decide +kernel
theorem d_Lb_parentOf_0 : decode b_Lb_parentOf 0 = .ok (.aload_n 0, 1) := by decide +kernel
theorem d_Lb_parentOf_1 : decode b_Lb_parentOf 1 = .ok (.getfield 11, 3) := by decide +kernel
theorem d_Lb_parentOf_4 : decode b_Lb_parentOf 4 = .ok (.iload_n 1, 1) := by decide +kernel
theorem d_Lb_parentOf_5 : decode b_Lb_parentOf 5 = .ok (.iaload, 1) := by decide +kernel
theorem d_Lb_parentOf_6 : decode b_Lb_parentOf 6 = .ok (.ireturn, 1) := by decide +kernel
theorem d_Lb_setParent_0 : decode b_Lb_setParent 0 = .ok (.aload_n 0, 1) := by decide +kernel
theorem d_Lb_setParent_1 : decode b_Lb_setParent 1 = .ok (.getfield 11, 3) := by decide +kernel
theorem d_Lb_setParent_4 : decode b_Lb_setParent 4 = .ok (.iload_n 1, 1) := by decide +kernel
theorem d_Lb_setParent_5 : decode b_Lb_setParent 5 = .ok (.iload_n 2, 1) := by decide +kernel
theorem d_Lb_setParent_6 : decode b_Lb_setParent 6 = .ok (.iastore, 1) := by decide +kernel
theorem d_Lb_setParent_7 : decode b_Lb_setParent 7 = .ok (.return_, 1) := by decide +kernel
theorem d_Lb_hasFile_0 : decode b_Lb_hasFile 0 = .ok (.aload_n 0, 1) := by decide +kernel
theorem d_Lb_hasFile_1 : decode b_Lb_hasFile 1 = .ok (.getfield 15, 3) := by decide +kernel
theorem d_Lb_hasFile_4 : decode b_Lb_hasFile 4 = .ok (.iload_n 1, 1) := by decide +kernel
theorem d_Lb_hasFile_5 : decode b_Lb_hasFile 5 = .ok (.iload_n 2, 1) := by decide +kernel
theorem d_Lb_hasFile_6 : decode b_Lb_hasFile 6 = .ok (.invokestatic 44, 3) := by decide +kernel
theorem d_Lb_hasFile_9 : decode b_Lb_hasFile 9 = .ok (.iaload, 1) := by decide +kernel
theorem d_Lb_hasFile_10 : decode b_Lb_hasFile 10 = .ok (.iconst (-1), 1) := by decide +kernel
theorem d_Lb_hasFile_11 : decode b_Lb_hasFile 11 = .ok (.if_icmp .eq 7, 3) := by decide +kernel
theorem d_Lb_hasFile_14 : decode b_Lb_hasFile 14 = .ok (.iconst 1, 1) := by decide +kernel
theorem d_Lb_hasFile_15 : decode b_Lb_hasFile 15 = .ok (.goto 4, 3) := by decide +kernel
theorem d_Lb_hasFile_18 : decode b_Lb_hasFile 18 = .ok (.iconst 0, 1) := by decide +kernel
theorem d_Lb_hasFile_19 : decode b_Lb_hasFile 19 = .ok (.ireturn, 1) := by decide +kernel
theorem d_Lb_putFile_0 : decode b_Lb_putFile 0 = .ok (.aload_n 0, 1) := by decide +kernel
theorem d_Lb_putFile_1 : decode b_Lb_putFile 1 = .ok (.getfield 15, 3) := by decide +kernel
theorem d_Lb_putFile_4 : decode b_Lb_putFile 4 = .ok (.iload_n 1, 1) := by decide +kernel
theorem d_Lb_putFile_5 : decode b_Lb_putFile 5 = .ok (.iload_n 2, 1) := by decide +kernel
theorem d_Lb_putFile_6 : decode b_Lb_putFile 6 = .ok (.invokestatic 44, 3) := by decide +kernel
theorem d_Lb_putFile_9 : decode b_Lb_putFile 9 = .ok (.iload_n 3, 1) := by decide +kernel
theorem d_Lb_putFile_10 : decode b_Lb_putFile 10 = .ok (.iastore, 1) := by decide +kernel
theorem d_Lb_putFile_11 : decode b_Lb_putFile 11 = .ok (.aload_n 0, 1) := by decide +kernel
theorem d_Lb_putFile_12 : decode b_Lb_putFile 12 = .ok (.getfield 18, 3) := by decide +kernel
theorem d_Lb_putFile_15 : decode b_Lb_putFile 15 = .ok (.iload_n 1, 1) := by decide +kernel
theorem d_Lb_putFile_16 : decode b_Lb_putFile 16 = .ok (.iload_n 2, 1) := by decide +kernel
theorem d_Lb_putFile_17 : decode b_Lb_putFile 17 = .ok (.invokestatic 44, 3) := by decide +kernel
theorem d_Lb_putFile_20 : decode b_Lb_putFile 20 = .ok (.iload 4, 2) := by decide +kernel
theorem d_Lb_putFile_22 : decode b_Lb_putFile 22 = .ok (.iastore, 1) := by decide +kernel
theorem d_Lb_putFile_23 : decode b_Lb_putFile 23 = .ok (.return_, 1) := by decide +kernel
theorem d_Lb_dropFile_0 : decode b_Lb_dropFile 0 = .ok (.aload_n 0, 1) := by decide +kernel
theorem d_Lb_dropFile_1 : decode b_Lb_dropFile 1 = .ok (.getfield 15, 3) := by decide +kernel
theorem d_Lb_dropFile_4 : decode b_Lb_dropFile 4 = .ok (.iload_n 1, 1) := by decide +kernel
theorem d_Lb_dropFile_5 : decode b_Lb_dropFile 5 = .ok (.iload_n 2, 1) := by decide +kernel
theorem d_Lb_dropFile_6 : decode b_Lb_dropFile 6 = .ok (.invokestatic 44, 3) := by decide +kernel
theorem d_Lb_dropFile_9 : decode b_Lb_dropFile 9 = .ok (.iconst (-1), 1) := by decide +kernel
theorem d_Lb_dropFile_10 : decode b_Lb_dropFile 10 = .ok (.iastore, 1) := by decide +kernel
theorem d_Lb_dropFile_11 : decode b_Lb_dropFile 11 = .ok (.return_, 1) := by decide +kernel
theorem d_Lb_fileSays_0 : decode b_Lb_fileSays 0 = .ok (.aload_n 0, 1) := by decide +kernel
theorem d_Lb_fileSays_1 : decode b_Lb_fileSays 1 = .ok (.getfield 15, 3) := by decide +kernel
theorem d_Lb_fileSays_4 : decode b_Lb_fileSays 4 = .ok (.iload_n 1, 1) := by decide +kernel
theorem d_Lb_fileSays_5 : decode b_Lb_fileSays 5 = .ok (.iload_n 2, 1) := by decide +kernel
theorem d_Lb_fileSays_6 : decode b_Lb_fileSays 6 = .ok (.invokestatic 44, 3) := by decide +kernel
theorem d_Lb_fileSays_9 : decode b_Lb_fileSays 9 = .ok (.iaload, 1) := by decide +kernel
theorem d_Lb_fileSays_10 : decode b_Lb_fileSays 10 = .ok (.bipush 9, 2) := by decide +kernel
theorem d_Lb_fileSays_12 : decode b_Lb_fileSays 12 = .ok (.irem, 1) := by decide +kernel
theorem d_Lb_fileSays_13 : decode b_Lb_fileSays 13 = .ok (.ireturn, 1) := by decide +kernel
theorem d_Lb_fileSuperclass_0 : decode b_Lb_fileSuperclass 0 = .ok (.aload_n 0, 1) := by decide +kernel
theorem d_Lb_fileSuperclass_1 : decode b_Lb_fileSuperclass 1 = .ok (.getfield 15, 3) := by decide +kernel
theorem d_Lb_fileSuperclass_4 : decode b_Lb_fileSuperclass 4 = .ok (.iload_n 1, 1) := by decide +kernel
theorem d_Lb_fileSuperclass_5 : decode b_Lb_fileSuperclass 5 = .ok (.iload_n 2, 1) := by decide +kernel
theorem d_Lb_fileSuperclass_6 : decode b_Lb_fileSuperclass 6 = .ok (.invokestatic 44, 3) := by decide +kernel
theorem d_Lb_fileSuperclass_9 : decode b_Lb_fileSuperclass 9 = .ok (.iaload, 1) := by decide +kernel
theorem d_Lb_fileSuperclass_10 : decode b_Lb_fileSuperclass 10 = .ok (.bipush 9, 2) := by decide +kernel
theorem d_Lb_fileSuperclass_12 : decode b_Lb_fileSuperclass 12 = .ok (.idiv, 1) := by decide +kernel
theorem d_Lb_fileSuperclass_13 : decode b_Lb_fileSuperclass 13 = .ok (.bipush 9, 2) := by decide +kernel
theorem d_Lb_fileSuperclass_15 : decode b_Lb_fileSuperclass 15 = .ok (.irem, 1) := by decide +kernel
theorem d_Lb_fileSuperclass_16 : decode b_Lb_fileSuperclass 16 = .ok (.ireturn, 1) := by decide +kernel
theorem d_Lb_fileInterface_0 : decode b_Lb_fileInterface 0 = .ok (.aload_n 0, 1) := by decide +kernel
theorem d_Lb_fileInterface_1 : decode b_Lb_fileInterface 1 = .ok (.getfield 15, 3) := by decide +kernel
theorem d_Lb_fileInterface_4 : decode b_Lb_fileInterface 4 = .ok (.iload_n 1, 1) := by decide +kernel
theorem d_Lb_fileInterface_5 : decode b_Lb_fileInterface 5 = .ok (.iload_n 2, 1) := by decide +kernel
theorem d_Lb_fileInterface_6 : decode b_Lb_fileInterface 6 = .ok (.invokestatic 44, 3) := by decide +kernel
theorem d_Lb_fileInterface_9 : decode b_Lb_fileInterface 9 = .ok (.iaload, 1) := by decide +kernel
theorem d_Lb_fileInterface_10 : decode b_Lb_fileInterface 10 = .ok (.bipush 81, 2) := by decide +kernel
theorem d_Lb_fileInterface_12 : decode b_Lb_fileInterface 12 = .ok (.idiv, 1) := by decide +kernel
theorem d_Lb_fileInterface_13 : decode b_Lb_fileInterface 13 = .ok (.ireturn, 1) := by decide +kernel
theorem d_Lb_fileMarks_0 : decode b_Lb_fileMarks 0 = .ok (.aload_n 0, 1) := by decide +kernel
theorem d_Lb_fileMarks_1 : decode b_Lb_fileMarks 1 = .ok (.getfield 18, 3) := by decide +kernel
theorem d_Lb_fileMarks_4 : decode b_Lb_fileMarks 4 = .ok (.iload_n 1, 1) := by decide +kernel
theorem d_Lb_fileMarks_5 : decode b_Lb_fileMarks 5 = .ok (.iload_n 2, 1) := by decide +kernel
theorem d_Lb_fileMarks_6 : decode b_Lb_fileMarks 6 = .ok (.invokestatic 44, 3) := by decide +kernel
theorem d_Lb_fileMarks_9 : decode b_Lb_fileMarks 9 = .ok (.iaload, 1) := by decide +kernel
theorem d_Lb_fileMarks_10 : decode b_Lb_fileMarks 10 = .ok (.ireturn, 1) := by decide +kernel
theorem d_Lb_scriptWay_0 : decode b_Lb_scriptWay 0 = .ok (.aload_n 0, 1) := by decide +kernel
theorem d_Lb_scriptWay_1 : decode b_Lb_scriptWay 1 = .ok (.getfield 21, 3) := by decide +kernel
theorem d_Lb_scriptWay_4 : decode b_Lb_scriptWay 4 = .ok (.iload_n 1, 1) := by decide +kernel
theorem d_Lb_scriptWay_5 : decode b_Lb_scriptWay 5 = .ok (.iload_n 2, 1) := by decide +kernel
theorem d_Lb_scriptWay_6 : decode b_Lb_scriptWay 6 = .ok (.invokestatic 44, 3) := by decide +kernel
theorem d_Lb_scriptWay_9 : decode b_Lb_scriptWay 9 = .ok (.iaload, 1) := by decide +kernel
theorem d_Lb_scriptWay_10 : decode b_Lb_scriptWay 10 = .ok (.ireturn, 1) := by decide +kernel
theorem d_Lb_scriptNumber_0 : decode b_Lb_scriptNumber 0 = .ok (.aload_n 0, 1) := by decide +kernel
theorem d_Lb_scriptNumber_1 : decode b_Lb_scriptNumber 1 = .ok (.getfield 24, 3) := by decide +kernel
theorem d_Lb_scriptNumber_4 : decode b_Lb_scriptNumber 4 = .ok (.iload_n 1, 1) := by decide +kernel
theorem d_Lb_scriptNumber_5 : decode b_Lb_scriptNumber 5 = .ok (.iload_n 2, 1) := by decide +kernel
theorem d_Lb_scriptNumber_6 : decode b_Lb_scriptNumber 6 = .ok (.invokestatic 44, 3) := by decide +kernel
theorem d_Lb_scriptNumber_9 : decode b_Lb_scriptNumber 9 = .ok (.iaload, 1) := by decide +kernel
theorem d_Lb_scriptNumber_10 : decode b_Lb_scriptNumber 10 = .ok (.ireturn, 1) := by decide +kernel
theorem d_Lb_setScript_0 : decode b_Lb_setScript 0 = .ok (.aload_n 0, 1) := by decide +kernel
theorem d_Lb_setScript_1 : decode b_Lb_setScript 1 = .ok (.getfield 21, 3) := by decide +kernel
theorem d_Lb_setScript_4 : decode b_Lb_setScript 4 = .ok (.iload_n 1, 1) := by decide +kernel
theorem d_Lb_setScript_5 : decode b_Lb_setScript 5 = .ok (.iload_n 2, 1) := by decide +kernel
theorem d_Lb_setScript_6 : decode b_Lb_setScript 6 = .ok (.invokestatic 44, 3) := by decide +kernel
theorem d_Lb_setScript_9 : decode b_Lb_setScript 9 = .ok (.iload_n 3, 1) := by decide +kernel
theorem d_Lb_setScript_10 : decode b_Lb_setScript 10 = .ok (.iastore, 1) := by decide +kernel
theorem d_Lb_setScript_11 : decode b_Lb_setScript 11 = .ok (.aload_n 0, 1) := by decide +kernel
theorem d_Lb_setScript_12 : decode b_Lb_setScript 12 = .ok (.getfield 24, 3) := by decide +kernel
theorem d_Lb_setScript_15 : decode b_Lb_setScript 15 = .ok (.iload_n 1, 1) := by decide +kernel
theorem d_Lb_setScript_16 : decode b_Lb_setScript 16 = .ok (.iload_n 2, 1) := by decide +kernel
theorem d_Lb_setScript_17 : decode b_Lb_setScript 17 = .ok (.invokestatic 44, 3) := by decide +kernel
theorem d_Lb_setScript_20 : decode b_Lb_setScript 20 = .ok (.iload 4, 2) := by decide +kernel
theorem d_Lb_setScript_22 : decode b_Lb_setScript 22 = .ok (.iastore, 1) := by decide +kernel
theorem d_Lb_setScript_23 : decode b_Lb_setScript 23 = .ok (.return_, 1) := by decide +kernel
theorem d_Lb_recordOf_0 : decode b_Lb_recordOf 0 = .ok (.aload_n 0, 1) := by decide +kernel
theorem d_Lb_recordOf_1 : decode b_Lb_recordOf 1 = .ok (.getfield 27, 3) := by decide +kernel
theorem d_Lb_recordOf_4 : decode b_Lb_recordOf 4 = .ok (.iload_n 1, 1) := by decide +kernel
theorem d_Lb_recordOf_5 : decode b_Lb_recordOf 5 = .ok (.iload_n 2, 1) := by decide +kernel
theorem d_Lb_recordOf_6 : decode b_Lb_recordOf 6 = .ok (.invokestatic 44, 3) := by decide +kernel
theorem d_Lb_recordOf_9 : decode b_Lb_recordOf 9 = .ok (.iaload, 1) := by decide +kernel
theorem d_Lb_recordOf_10 : decode b_Lb_recordOf 10 = .ok (.ireturn, 1) := by decide +kernel
theorem d_Lb_putRecord_0 : decode b_Lb_putRecord 0 = .ok (.aload_n 0, 1) := by decide +kernel
theorem d_Lb_putRecord_1 : decode b_Lb_putRecord 1 = .ok (.getfield 27, 3) := by decide +kernel
theorem d_Lb_putRecord_4 : decode b_Lb_putRecord 4 = .ok (.iload_n 1, 1) := by decide +kernel
theorem d_Lb_putRecord_5 : decode b_Lb_putRecord 5 = .ok (.iload_n 2, 1) := by decide +kernel
theorem d_Lb_putRecord_6 : decode b_Lb_putRecord 6 = .ok (.invokestatic 44, 3) := by decide +kernel
theorem d_Lb_putRecord_9 : decode b_Lb_putRecord 9 = .ok (.iload_n 3, 1) := by decide +kernel
theorem d_Lb_putRecord_10 : decode b_Lb_putRecord 10 = .ok (.iastore, 1) := by decide +kernel
theorem d_Lb_putRecord_11 : decode b_Lb_putRecord 11 = .ok (.return_, 1) := by decide +kernel
theorem d_Lb_isUnderWay_0 : decode b_Lb_isUnderWay 0 = .ok (.aload_n 0, 1) := by decide +kernel
theorem d_Lb_isUnderWay_1 : decode b_Lb_isUnderWay 1 = .ok (.getfield 30, 3) := by decide +kernel
theorem d_Lb_isUnderWay_4 : decode b_Lb_isUnderWay 4 = .ok (.iload_n 1, 1) := by decide +kernel
theorem d_Lb_isUnderWay_5 : decode b_Lb_isUnderWay 5 = .ok (.iload_n 2, 1) := by decide +kernel
theorem d_Lb_isUnderWay_6 : decode b_Lb_isUnderWay 6 = .ok (.invokestatic 44, 3) := by decide +kernel
theorem d_Lb_isUnderWay_9 : decode b_Lb_isUnderWay 9 = .ok (.baload, 1) := by decide +kernel
theorem d_Lb_isUnderWay_10 : decode b_Lb_isUnderWay 10 = .ok (.ireturn, 1) := by decide +kernel
theorem d_Lb_setUnderWay_0 : decode b_Lb_setUnderWay 0 = .ok (.aload_n 0, 1) := by decide +kernel
theorem d_Lb_setUnderWay_1 : decode b_Lb_setUnderWay 1 = .ok (.getfield 30, 3) := by decide +kernel
theorem d_Lb_setUnderWay_4 : decode b_Lb_setUnderWay 4 = .ok (.iload_n 1, 1) := by decide +kernel
theorem d_Lb_setUnderWay_5 : decode b_Lb_setUnderWay 5 = .ok (.iload_n 2, 1) := by decide +kernel
theorem d_Lb_setUnderWay_6 : decode b_Lb_setUnderWay 6 = .ok (.invokestatic 44, 3) := by decide +kernel
theorem d_Lb_setUnderWay_9 : decode b_Lb_setUnderWay 9 = .ok (.iload_n 3, 1) := by decide +kernel
theorem d_Lb_setUnderWay_10 : decode b_Lb_setUnderWay 10 = .ok (.bastore, 1) := by decide +kernel
theorem d_Lb_setUnderWay_11 : decode b_Lb_setUnderWay 11 = .ok (.return_, 1) := by decide +kernel
theorem d_Lb_arePeers_0 : decode b_Lb_arePeers 0 = .ok (.aload_n 0, 1) := by decide +kernel
theorem d_Lb_arePeers_1 : decode b_Lb_arePeers 1 = .ok (.getfield 34, 3) := by decide +kernel
theorem d_Lb_arePeers_4 : decode b_Lb_arePeers 4 = .ok (.iload_n 1, 1) := by decide +kernel
theorem d_Lb_arePeers_5 : decode b_Lb_arePeers 5 = .ok (.iload_n 3, 1) := by decide +kernel
theorem d_Lb_arePeers_6 : decode b_Lb_arePeers 6 = .ok (.invokestatic 44, 3) := by decide +kernel
theorem d_Lb_arePeers_9 : decode b_Lb_arePeers 9 = .ok (.iaload, 1) := by decide +kernel
theorem d_Lb_arePeers_10 : decode b_Lb_arePeers 10 = .ok (.iload_n 2, 1) := by decide +kernel
theorem d_Lb_arePeers_11 : decode b_Lb_arePeers 11 = .ok (.invokestatic 48, 3) := by decide +kernel
theorem d_Lb_arePeers_14 : decode b_Lb_arePeers 14 = .ok (.ireturn, 1) := by decide +kernel
theorem d_Lb_peersDiffer_0 : decode b_Lb_peersDiffer 0 = .ok (.aload_n 0, 1) := by decide +kernel
theorem d_Lb_peersDiffer_1 : decode b_Lb_peersDiffer 1 = .ok (.aload_n 0, 1) := by decide +kernel
theorem d_Lb_peersDiffer_2 : decode b_Lb_peersDiffer 2 = .ok (.getfield 34, 3) := by decide +kernel
theorem d_Lb_peersDiffer_5 : decode b_Lb_peersDiffer 5 = .ok (.iload_n 1, 1) := by decide +kernel
theorem d_Lb_peersDiffer_6 : decode b_Lb_peersDiffer 6 = .ok (.iload_n 2, 1) := by decide +kernel
theorem d_Lb_peersDiffer_7 : decode b_Lb_peersDiffer 7 = .ok (.invokestatic 44, 3) := by decide +kernel
theorem d_Lb_peersDiffer_10 : decode b_Lb_peersDiffer 10 = .ok (.iaload, 1) := by decide +kernel
theorem d_Lb_peersDiffer_11 : decode b_Lb_peersDiffer 11 = .ok (.iload_n 2, 1) := by decide +kernel
theorem d_Lb_peersDiffer_12 : decode b_Lb_peersDiffer 12 = .ok (.iload_n 3, 1) := by decide +kernel
theorem d_Lb_peersDiffer_13 : decode b_Lb_peersDiffer 13 = .ok (.invokevirtual 52, 3) := by decide +kernel
theorem d_Lb_peersDiffer_16 : decode b_Lb_peersDiffer 16 = .ok (.ireturn, 1) := by decide +kernel
theorem d_Lb_join_0 : decode b_Lb_join 0 = .ok (.aload_n 0, 1) := by decide +kernel
theorem d_Lb_join_1 : decode b_Lb_join 1 = .ok (.getfield 34, 3) := by decide +kernel
theorem d_Lb_join_4 : decode b_Lb_join 4 = .ok (.iload_n 1, 1) := by decide +kernel
theorem d_Lb_join_5 : decode b_Lb_join 5 = .ok (.iload_n 3, 1) := by decide +kernel
theorem d_Lb_join_6 : decode b_Lb_join 6 = .ok (.invokestatic 44, 3) := by decide +kernel
theorem d_Lb_join_9 : decode b_Lb_join 9 = .ok (.iaload, 1) := by decide +kernel
theorem d_Lb_join_10 : decode b_Lb_join 10 = .ok (.aload_n 0, 1) := by decide +kernel
theorem d_Lb_join_11 : decode b_Lb_join 11 = .ok (.getfield 34, 3) := by decide +kernel
theorem d_Lb_join_14 : decode b_Lb_join 14 = .ok (.iload_n 2, 1) := by decide +kernel
theorem d_Lb_join_15 : decode b_Lb_join 15 = .ok (.iload_n 3, 1) := by decide +kernel
theorem d_Lb_join_16 : decode b_Lb_join 16 = .ok (.invokestatic 44, 3) := by decide +kernel
theorem d_Lb_join_19 : decode b_Lb_join 19 = .ok (.iaload, 1) := by decide +kernel
theorem d_Lb_join_20 : decode b_Lb_join 20 = .ok (.ior, 1) := by decide +kernel
theorem d_Lb_join_21 : decode b_Lb_join 21 = .ok (.istore 4, 2) := by decide +kernel
theorem d_Lb_join_23 : decode b_Lb_join 23 = .ok (.aload_n 0, 1) := by decide +kernel
theorem d_Lb_join_24 : decode b_Lb_join 24 = .ok (.iload 4, 2) := by decide +kernel
theorem d_Lb_join_26 : decode b_Lb_join 26 = .ok (.iload_n 3, 1) := by decide +kernel
theorem d_Lb_join_27 : decode b_Lb_join 27 = .ok (.aload_n 0, 1) := by decide +kernel
theorem d_Lb_join_28 : decode b_Lb_join 28 = .ok (.iload 4, 2) := by decide +kernel
theorem d_Lb_join_30 : decode b_Lb_join 30 = .ok (.iload_n 3, 1) := by decide +kernel
theorem d_Lb_join_31 : decode b_Lb_join 31 = .ok (.invokevirtual 56, 3) := by decide +kernel
theorem d_Lb_join_34 : decode b_Lb_join 34 = .ok (.invokevirtual 52, 3) := by decide +kernel
theorem d_Lb_join_37 : decode b_Lb_join 37 = .ok (.ifCond .eq 5, 3) := by decide +kernel
theorem d_Lb_join_40 : decode b_Lb_join 40 = .ok (.iconst 0, 1) := by decide +kernel
theorem d_Lb_join_41 : decode b_Lb_join 41 = .ok (.ireturn, 1) := by decide +kernel
theorem d_Lb_join_42 : decode b_Lb_join 42 = .ok (.iconst 0, 1) := by decide +kernel
theorem d_Lb_join_43 : decode b_Lb_join 43 = .ok (.istore 5, 2) := by decide +kernel
theorem d_Lb_join_45 : decode b_Lb_join 45 = .ok (.iload 5, 2) := by decide +kernel
theorem d_Lb_join_47 : decode b_Lb_join 47 = .ok (.iconst 5, 1) := by decide +kernel
theorem d_Lb_join_48 : decode b_Lb_join 48 = .ok (.if_icmp .ge 32, 3) := by decide +kernel
theorem d_Lb_join_51 : decode b_Lb_join 51 = .ok (.iload 4, 2) := by decide +kernel
theorem d_Lb_join_53 : decode b_Lb_join 53 = .ok (.iload 5, 2) := by decide +kernel
theorem d_Lb_join_55 : decode b_Lb_join 55 = .ok (.invokestatic 48, 3) := by decide +kernel
theorem d_Lb_join_58 : decode b_Lb_join 58 = .ok (.ifCond .eq 16, 3) := by decide +kernel
theorem d_Lb_join_61 : decode b_Lb_join 61 = .ok (.aload_n 0, 1) := by decide +kernel
theorem d_Lb_join_62 : decode b_Lb_join 62 = .ok (.getfield 34, 3) := by decide +kernel
theorem d_Lb_join_65 : decode b_Lb_join 65 = .ok (.iload 5, 2) := by decide +kernel
theorem d_Lb_join_67 : decode b_Lb_join 67 = .ok (.iload_n 3, 1) := by decide +kernel
theorem d_Lb_join_68 : decode b_Lb_join 68 = .ok (.invokestatic 44, 3) := by decide +kernel
theorem d_Lb_join_71 : decode b_Lb_join 71 = .ok (.iload 4, 2) := by decide +kernel
theorem d_Lb_join_73 : decode b_Lb_join 73 = .ok (.iastore, 1) := by decide +kernel
theorem d_Lb_join_74 : decode b_Lb_join 74 = .ok (.iinc 5 1, 3) := by decide +kernel
theorem d_Lb_join_77 : decode b_Lb_join 77 = .ok (.goto (-32), 3) := by decide +kernel
theorem d_Lb_join_80 : decode b_Lb_join 80 = .ok (.iconst 1, 1) := by decide +kernel
theorem d_Lb_join_81 : decode b_Lb_join 81 = .ok (.ireturn, 1) := by decide +kernel
theorem d_Lb_countRecords_0 : decode b_Lb_countRecords 0 = .ok (.iconst 0, 1) := by decide +kernel
theorem d_Lb_countRecords_1 : decode b_Lb_countRecords 1 = .ok (.istore_n 1, 1) := by decide +kernel
theorem d_Lb_countRecords_2 : decode b_Lb_countRecords 2 = .ok (.iconst 0, 1) := by decide +kernel
theorem d_Lb_countRecords_3 : decode b_Lb_countRecords 3 = .ok (.istore_n 2, 1) := by decide +kernel
theorem d_Lb_countRecords_4 : decode b_Lb_countRecords 4 = .ok (.iload_n 2, 1) := by decide +kernel
theorem d_Lb_countRecords_5 : decode b_Lb_countRecords 5 = .ok (.bipush 40, 2) := by decide +kernel
theorem d_Lb_countRecords_7 : decode b_Lb_countRecords 7 = .ok (.if_icmp .ge 26, 3) := by decide +kernel
theorem d_Lb_countRecords_10 : decode b_Lb_countRecords 10 = .ok (.iload_n 1, 1) := by decide +kernel
theorem d_Lb_countRecords_11 : decode b_Lb_countRecords 11 = .ok (.aload_n 0, 1) := by decide +kernel
theorem d_Lb_countRecords_12 : decode b_Lb_countRecords 12 = .ok (.getfield 27, 3) := by decide +kernel
theorem d_Lb_countRecords_15 : decode b_Lb_countRecords 15 = .ok (.iload_n 2, 1) := by decide +kernel
theorem d_Lb_countRecords_16 : decode b_Lb_countRecords 16 = .ok (.iaload, 1) := by decide +kernel
theorem d_Lb_countRecords_17 : decode b_Lb_countRecords 17 = .ok (.ifCond .eq 7, 3) := by decide +kernel
theorem d_Lb_countRecords_20 : decode b_Lb_countRecords 20 = .ok (.iconst 1, 1) := by decide +kernel
theorem d_Lb_countRecords_21 : decode b_Lb_countRecords 21 = .ok (.goto 4, 3) := by decide +kernel
theorem d_Lb_countRecords_24 : decode b_Lb_countRecords 24 = .ok (.iconst 0, 1) := by decide +kernel
theorem d_Lb_countRecords_25 : decode b_Lb_countRecords 25 = .ok (.iadd, 1) := by decide +kernel
theorem d_Lb_countRecords_26 : decode b_Lb_countRecords 26 = .ok (.istore_n 1, 1) := by decide +kernel
theorem d_Lb_countRecords_27 : decode b_Lb_countRecords 27 = .ok (.iinc 2 1, 3) := by decide +kernel
theorem d_Lb_countRecords_30 : decode b_Lb_countRecords 30 = .ok (.goto (-26), 3) := by decide +kernel
theorem d_Lb_countRecords_33 : decode b_Lb_countRecords 33 = .ok (.iload_n 1, 1) := by decide +kernel
theorem d_Lb_countRecords_34 : decode b_Lb_countRecords 34 = .ok (.ireturn, 1) := by decide +kernel
theorem d_Lb_countFiles_0 : decode b_Lb_countFiles 0 = .ok (.iconst 0, 1) := by decide +kernel
theorem d_Lb_countFiles_1 : decode b_Lb_countFiles 1 = .ok (.istore_n 1, 1) := by decide +kernel
theorem d_Lb_countFiles_2 : decode b_Lb_countFiles 2 = .ok (.iconst 0, 1) := by decide +kernel
theorem d_Lb_countFiles_3 : decode b_Lb_countFiles 3 = .ok (.istore_n 2, 1) := by decide +kernel
theorem d_Lb_countFiles_4 : decode b_Lb_countFiles 4 = .ok (.iload_n 2, 1) := by decide +kernel
theorem d_Lb_countFiles_5 : decode b_Lb_countFiles 5 = .ok (.bipush 40, 2) := by decide +kernel
theorem d_Lb_countFiles_7 : decode b_Lb_countFiles 7 = .ok (.if_icmp .ge 27, 3) := by decide +kernel
theorem d_Lb_countFiles_10 : decode b_Lb_countFiles 10 = .ok (.iload_n 1, 1) := by decide +kernel
theorem d_Lb_countFiles_11 : decode b_Lb_countFiles 11 = .ok (.aload_n 0, 1) := by decide +kernel
theorem d_Lb_countFiles_12 : decode b_Lb_countFiles 12 = .ok (.getfield 15, 3) := by decide +kernel
theorem d_Lb_countFiles_15 : decode b_Lb_countFiles 15 = .ok (.iload_n 2, 1) := by decide +kernel
theorem d_Lb_countFiles_16 : decode b_Lb_countFiles 16 = .ok (.iaload, 1) := by decide +kernel
theorem d_Lb_countFiles_17 : decode b_Lb_countFiles 17 = .ok (.iconst (-1), 1) := by decide +kernel
theorem d_Lb_countFiles_18 : decode b_Lb_countFiles 18 = .ok (.if_icmp .eq 7, 3) := by decide +kernel
theorem d_Lb_countFiles_21 : decode b_Lb_countFiles 21 = .ok (.iconst 1, 1) := by decide +kernel
theorem d_Lb_countFiles_22 : decode b_Lb_countFiles 22 = .ok (.goto 4, 3) := by decide +kernel
theorem d_Lb_countFiles_25 : decode b_Lb_countFiles 25 = .ok (.iconst 0, 1) := by decide +kernel
theorem d_Lb_countFiles_26 : decode b_Lb_countFiles 26 = .ok (.iadd, 1) := by decide +kernel
theorem d_Lb_countFiles_27 : decode b_Lb_countFiles 27 = .ok (.istore_n 1, 1) := by decide +kernel
theorem d_Lb_countFiles_28 : decode b_Lb_countFiles 28 = .ok (.iinc 2 1, 3) := by decide +kernel
theorem d_Lb_countFiles_31 : decode b_Lb_countFiles 31 = .ok (.goto (-27), 3) := by decide +kernel
theorem d_Lb_countFiles_34 : decode b_Lb_countFiles 34 = .ok (.iload_n 1, 1) := by decide +kernel
theorem d_Lb_countFiles_35 : decode b_Lb_countFiles 35 = .ok (.ireturn, 1) := by decide +kernel
theorem d_Lb_countPeers_0 : decode b_Lb_countPeers 0 = .ok (.iconst 0, 1) := by decide +kernel
theorem d_Lb_countPeers_1 : decode b_Lb_countPeers 1 = .ok (.istore_n 1, 1) := by decide +kernel
theorem d_Lb_countPeers_2 : decode b_Lb_countPeers 2 = .ok (.iconst 0, 1) := by decide +kernel
theorem d_Lb_countPeers_3 : decode b_Lb_countPeers 3 = .ok (.istore_n 2, 1) := by decide +kernel
theorem d_Lb_countPeers_4 : decode b_Lb_countPeers 4 = .ok (.iload_n 2, 1) := by decide +kernel
theorem d_Lb_countPeers_5 : decode b_Lb_countPeers 5 = .ok (.bipush 40, 2) := by decide +kernel
theorem d_Lb_countPeers_7 : decode b_Lb_countPeers 7 = .ok (.if_icmp .ge 48, 3) := by decide +kernel
theorem d_Lb_countPeers_10 : decode b_Lb_countPeers 10 = .ok (.iload_n 2, 1) := by decide +kernel
theorem d_Lb_countPeers_11 : decode b_Lb_countPeers 11 = .ok (.bipush 8, 2) := by decide +kernel
theorem d_Lb_countPeers_13 : decode b_Lb_countPeers 13 = .ok (.idiv, 1) := by decide +kernel
theorem d_Lb_countPeers_14 : decode b_Lb_countPeers 14 = .ok (.iconst 1, 1) := by decide +kernel
theorem d_Lb_countPeers_15 : decode b_Lb_countPeers 15 = .ok (.iadd, 1) := by decide +kernel
theorem d_Lb_countPeers_16 : decode b_Lb_countPeers 16 = .ok (.istore_n 3, 1) := by decide +kernel
theorem d_Lb_countPeers_17 : decode b_Lb_countPeers 17 = .ok (.iload_n 3, 1) := by decide +kernel
theorem d_Lb_countPeers_18 : decode b_Lb_countPeers 18 = .ok (.iconst 5, 1) := by decide +kernel
theorem d_Lb_countPeers_19 : decode b_Lb_countPeers 19 = .ok (.if_icmp .ge 30, 3) := by decide +kernel
theorem d_Lb_countPeers_22 : decode b_Lb_countPeers 22 = .ok (.iload_n 1, 1) := by decide +kernel
theorem d_Lb_countPeers_23 : decode b_Lb_countPeers 23 = .ok (.aload_n 0, 1) := by decide +kernel
theorem d_Lb_countPeers_24 : decode b_Lb_countPeers 24 = .ok (.getfield 34, 3) := by decide +kernel
theorem d_Lb_countPeers_27 : decode b_Lb_countPeers 27 = .ok (.iload_n 2, 1) := by decide +kernel
theorem d_Lb_countPeers_28 : decode b_Lb_countPeers 28 = .ok (.iaload, 1) := by decide +kernel
theorem d_Lb_countPeers_29 : decode b_Lb_countPeers 29 = .ok (.iload_n 3, 1) := by decide +kernel
theorem d_Lb_countPeers_30 : decode b_Lb_countPeers 30 = .ok (.invokestatic 48, 3) := by decide +kernel
theorem d_Lb_countPeers_33 : decode b_Lb_countPeers 33 = .ok (.ifCond .eq 7, 3) := by decide +kernel
theorem d_Lb_countPeers_36 : decode b_Lb_countPeers 36 = .ok (.iconst 1, 1) := by decide +kernel
theorem d_Lb_countPeers_37 : decode b_Lb_countPeers 37 = .ok (.goto 4, 3) := by decide +kernel
theorem d_Lb_countPeers_40 : decode b_Lb_countPeers 40 = .ok (.iconst 0, 1) := by decide +kernel
theorem d_Lb_countPeers_41 : decode b_Lb_countPeers 41 = .ok (.iadd, 1) := by decide +kernel
theorem d_Lb_countPeers_42 : decode b_Lb_countPeers 42 = .ok (.istore_n 1, 1) := by decide +kernel
theorem d_Lb_countPeers_43 : decode b_Lb_countPeers 43 = .ok (.iinc 3 1, 3) := by decide +kernel
theorem d_Lb_countPeers_46 : decode b_Lb_countPeers 46 = .ok (.goto (-29), 3) := by decide +kernel
theorem d_Lb_countPeers_49 : decode b_Lb_countPeers 49 = .ok (.iinc 2 1, 3) := by decide +kernel
theorem d_Lb_countPeers_52 : decode b_Lb_countPeers 52 = .ok (.goto (-48), 3) := by decide +kernel
theorem d_Lb_countPeers_55 : decode b_Lb_countPeers 55 = .ok (.iload_n 1, 1) := by decide +kernel
theorem d_Lb_countPeers_56 : decode b_Lb_countPeers 56 = .ok (.ireturn, 1) := by decide +kernel
theorem d_Lb_holds_0 : decode b_Lb_holds 0 = .ok (.iload_n 0, 1) := by decide +kernel
theorem d_Lb_holds_1 : decode b_Lb_holds 1 = .ok (.iload_n 1, 1) := by decide +kernel
theorem d_Lb_holds_2 : decode b_Lb_holds 2 = .ok (.ishr, 1) := by decide +kernel
theorem d_Lb_holds_3 : decode b_Lb_holds 3 = .ok (.iconst 1, 1) := by decide +kernel
theorem d_Lb_holds_4 : decode b_Lb_holds 4 = .ok (.iand, 1) := by decide +kernel
theorem d_Lb_holds_5 : decode b_Lb_holds 5 = .ok (.ifCond .eq 7, 3) := by decide +kernel
theorem d_Lb_holds_8 : decode b_Lb_holds 8 = .ok (.iconst 1, 1) := by decide +kernel
theorem d_Lb_holds_9 : decode b_Lb_holds 9 = .ok (.goto 4, 3) := by decide +kernel
theorem d_Lb_holds_12 : decode b_Lb_holds 12 = .ok (.iconst 0, 1) := by decide +kernel
theorem d_Lb_holds_13 : decode b_Lb_holds 13 = .ok (.ireturn, 1) := by decide +kernel
theorem d_Lb_anyRecord_0 : decode b_Lb_anyRecord 0 = .ok (.iconst 0, 1) := by decide +kernel
theorem d_Lb_anyRecord_1 : decode b_Lb_anyRecord 1 = .ok (.istore_n 3, 1) := by decide +kernel
theorem d_Lb_anyRecord_2 : decode b_Lb_anyRecord 2 = .ok (.iconst 0, 1) := by decide +kernel
theorem d_Lb_anyRecord_3 : decode b_Lb_anyRecord 3 = .ok (.istore 4, 2) := by decide +kernel
theorem d_Lb_anyRecord_5 : decode b_Lb_anyRecord 5 = .ok (.iload 4, 2) := by decide +kernel
theorem d_Lb_anyRecord_7 : decode b_Lb_anyRecord 7 = .ok (.iconst 5, 1) := by decide +kernel
theorem d_Lb_anyRecord_8 : decode b_Lb_anyRecord 8 = .ok (.if_icmp .ge 36, 3) := by decide +kernel
theorem d_Lb_anyRecord_11 : decode b_Lb_anyRecord 11 = .ok (.iload_n 1, 1) := by decide +kernel
theorem d_Lb_anyRecord_12 : decode b_Lb_anyRecord 12 = .ok (.iload 4, 2) := by decide +kernel
theorem d_Lb_anyRecord_14 : decode b_Lb_anyRecord 14 = .ok (.invokestatic 48, 3) := by decide +kernel
theorem d_Lb_anyRecord_17 : decode b_Lb_anyRecord 17 = .ok (.ifCond .eq 21, 3) := by decide +kernel
theorem d_Lb_anyRecord_20 : decode b_Lb_anyRecord 20 = .ok (.aload_n 0, 1) := by decide +kernel
theorem d_Lb_anyRecord_21 : decode b_Lb_anyRecord 21 = .ok (.iload 4, 2) := by decide +kernel
theorem d_Lb_anyRecord_23 : decode b_Lb_anyRecord 23 = .ok (.iload_n 2, 1) := by decide +kernel
theorem d_Lb_anyRecord_24 : decode b_Lb_anyRecord 24 = .ok (.invokevirtual 59, 3) := by decide +kernel
theorem d_Lb_anyRecord_27 : decode b_Lb_anyRecord 27 = .ok (.ifCond .eq 11, 3) := by decide +kernel
theorem d_Lb_anyRecord_30 : decode b_Lb_anyRecord 30 = .ok (.aload_n 0, 1) := by decide +kernel
theorem d_Lb_anyRecord_31 : decode b_Lb_anyRecord 31 = .ok (.iload 4, 2) := by decide +kernel
theorem d_Lb_anyRecord_33 : decode b_Lb_anyRecord 33 = .ok (.iload_n 2, 1) := by decide +kernel
theorem d_Lb_anyRecord_34 : decode b_Lb_anyRecord 34 = .ok (.invokevirtual 59, 3) := by decide +kernel
theorem d_Lb_anyRecord_37 : decode b_Lb_anyRecord 37 = .ok (.istore_n 3, 1) := by decide +kernel
theorem d_Lb_anyRecord_38 : decode b_Lb_anyRecord 38 = .ok (.iinc 4 1, 3) := by decide +kernel
theorem d_Lb_anyRecord_41 : decode b_Lb_anyRecord 41 = .ok (.goto (-36), 3) := by decide +kernel
theorem d_Lb_anyRecord_44 : decode b_Lb_anyRecord 44 = .ok (.iload_n 3, 1) := by decide +kernel
theorem d_Lb_anyRecord_45 : decode b_Lb_anyRecord 45 = .ok (.ireturn, 1) := by decide +kernel
theorem d_Lb_differ_0 : decode b_Lb_differ 0 = .ok (.iconst 0, 1) := by decide +kernel
theorem d_Lb_differ_1 : decode b_Lb_differ 1 = .ok (.istore 4, 2) := by decide +kernel
theorem d_Lb_differ_3 : decode b_Lb_differ 3 = .ok (.iload 4, 2) := by decide +kernel
theorem d_Lb_differ_5 : decode b_Lb_differ 5 = .ok (.iconst 5, 1) := by decide +kernel
theorem d_Lb_differ_6 : decode b_Lb_differ 6 = .ok (.if_icmp .ge 40, 3) := by decide +kernel
theorem d_Lb_differ_9 : decode b_Lb_differ 9 = .ok (.aload_n 0, 1) := by decide +kernel
theorem d_Lb_differ_10 : decode b_Lb_differ 10 = .ok (.iload 4, 2) := by decide +kernel
theorem d_Lb_differ_12 : decode b_Lb_differ 12 = .ok (.iload_n 2, 1) := by decide +kernel
theorem d_Lb_differ_13 : decode b_Lb_differ 13 = .ok (.invokevirtual 59, 3) := by decide +kernel
theorem d_Lb_differ_16 : decode b_Lb_differ 16 = .ok (.istore 5, 2) := by decide +kernel
theorem d_Lb_differ_18 : decode b_Lb_differ 18 = .ok (.iload_n 1, 1) := by decide +kernel
theorem d_Lb_differ_19 : decode b_Lb_differ 19 = .ok (.iload 4, 2) := by decide +kernel
theorem d_Lb_differ_21 : decode b_Lb_differ 21 = .ok (.invokestatic 48, 3) := by decide +kernel
theorem d_Lb_differ_24 : decode b_Lb_differ 24 = .ok (.ifCond .eq 16, 3) := by decide +kernel
theorem d_Lb_differ_27 : decode b_Lb_differ 27 = .ok (.iload 5, 2) := by decide +kernel
theorem d_Lb_differ_29 : decode b_Lb_differ 29 = .ok (.ifCond .eq 11, 3) := by decide +kernel
theorem d_Lb_differ_32 : decode b_Lb_differ 32 = .ok (.iload 5, 2) := by decide +kernel
theorem d_Lb_differ_34 : decode b_Lb_differ 34 = .ok (.iload_n 3, 1) := by decide +kernel
theorem d_Lb_differ_35 : decode b_Lb_differ 35 = .ok (.if_icmp .eq 5, 3) := by decide +kernel
theorem d_Lb_differ_38 : decode b_Lb_differ 38 = .ok (.iconst 1, 1) := by decide +kernel
theorem d_Lb_differ_39 : decode b_Lb_differ 39 = .ok (.ireturn, 1) := by decide +kernel
theorem d_Lb_differ_40 : decode b_Lb_differ 40 = .ok (.iinc 4 1, 3) := by decide +kernel
theorem d_Lb_differ_43 : decode b_Lb_differ 43 = .ok (.goto (-40), 3) := by decide +kernel
theorem d_Lb_differ_46 : decode b_Lb_differ 46 = .ok (.iconst 0, 1) := by decide +kernel
theorem d_Lb_differ_47 : decode b_Lb_differ 47 = .ok (.ireturn, 1) := by decide +kernel
