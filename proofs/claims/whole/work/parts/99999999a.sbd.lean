/-! decode rows of the StringBuilder's further methods (written by wip/whole/gen14.py) -/
abbrev jc_isl : ByteArray := prog_15_method_68_code
abbrev jc_nwc : ByteArray := prog_15_method_10_code
abbrev jc_nwl : ByteArray := prog_26_method_27_code
abbrev jc_cpo : ByteArray := prog_25_method_121_code
abbrev jc_apc : ByteArray := prog_15_method_31_code
abbrev jc_api : ByteArray := prog_15_method_32_code
abbrev jc_cat : ByteArray := prog_15_method_14_code
abbrev jc_sbc : ByteArray := prog_21_method_14_code
abbrev jc_sbn : ByteArray := prog_21_method_15_code
abbrev jc_sba : ByteArray := prog_21_method_88_code
abbrev jc_cen : ByteArray := prog_22_method_3_code
abbrev jc_ssz : ByteArray := prog_17_method_13_code
abbrev jc_gch : ByteArray := prog_17_method_12_code
abbrev jc_mxm : ByteArray := prog_18_method_65_code
abbrev jc_mnm : ByteArray := prog_18_method_69_code
theorem jd_nwc_0 : decode jc_nwc 0 = .ok (.aload_n 0, 1) := by decide +kernel
theorem jd_nwc_1 : decode jc_nwc 1 = .ok (.getfield 15, 3) := by decide +kernel
theorem jd_nwc_4 : decode jc_nwc 4 = .ok (.arraylength, 1) := by decide +kernel
theorem jd_nwc_5 : decode jc_nwc 5 = .ok (.istore_n 2, 1) := by decide +kernel
theorem jd_nwc_6 : decode jc_nwc 6 = .ok (.iload_n 1, 1) := by decide +kernel
theorem jd_nwc_7 : decode jc_nwc 7 = .ok (.aload_n 0, 1) := by decide +kernel
theorem jd_nwc_8 : decode jc_nwc 8 = .ok (.getfield 22, 3) := by decide +kernel
theorem jd_nwc_11 : decode jc_nwc 11 = .ok (.ishl, 1) := by decide +kernel
theorem jd_nwc_12 : decode jc_nwc 12 = .ok (.istore_n 3, 1) := by decide +kernel
theorem jd_nwc_13 : decode jc_nwc 13 = .ok (.iload_n 3, 1) := by decide +kernel
theorem jd_nwc_14 : decode jc_nwc 14 = .ok (.iload_n 2, 1) := by decide +kernel
theorem jd_nwc_15 : decode jc_nwc 15 = .ok (.isub, 1) := by decide +kernel
theorem jd_nwc_16 : decode jc_nwc 16 = .ok (.istore 4, 2) := by decide +kernel
theorem jd_nwc_18 : decode jc_nwc 18 = .ok (.iload_n 2, 1) := by decide +kernel
theorem jd_nwc_19 : decode jc_nwc 19 = .ok (.iload 4, 2) := by decide +kernel
theorem jd_nwc_21 : decode jc_nwc 21 = .ok (.iload_n 2, 1) := by decide +kernel
theorem jd_nwc_22 : decode jc_nwc 22 = .ok (.iconst 2, 1) := by decide +kernel
theorem jd_nwc_23 : decode jc_nwc 23 = .ok (.aload_n 0, 1) := by decide +kernel
theorem jd_nwc_24 : decode jc_nwc 24 = .ok (.getfield 22, 3) := by decide +kernel
theorem jd_nwc_27 : decode jc_nwc 27 = .ok (.ishl, 1) := by decide +kernel
theorem jd_nwc_28 : decode jc_nwc 28 = .ok (.iadd, 1) := by decide +kernel
theorem jd_nwc_29 : decode jc_nwc 29 = .ok (.invokestatic 114, 3) := by decide +kernel
theorem jd_nwc_32 : decode jc_nwc 32 = .ok (.istore 5, 2) := by decide +kernel
theorem jd_nwc_34 : decode jc_nwc 34 = .ok (.iload 5, 2) := by decide +kernel
theorem jd_nwc_36 : decode jc_nwc 36 = .ok (.ldc 39, 2) := by decide +kernel
theorem jd_nwc_38 : decode jc_nwc 38 = .ok (.if_icmp .ne 13, 3) := by decide +kernel
theorem jd_nwc_41 : decode jc_nwc 41 = .ok (.new 120, 3) := by decide +kernel
theorem jd_nwc_44 : decode jc_nwc 44 = .ok (.dup, 1) := by decide +kernel
theorem jd_nwc_45 : decode jc_nwc 45 = .ok (.ldc 122, 2) := by decide +kernel
theorem jd_nwc_47 : decode jc_nwc 47 = .ok (.invokespecial 124, 3) := by decide +kernel
theorem jd_nwc_50 : decode jc_nwc 50 = .ok (.athrow, 1) := by decide +kernel
theorem jd_nwc_51 : decode jc_nwc 51 = .ok (.iload 5, 2) := by decide +kernel
theorem jd_nwc_53 : decode jc_nwc 53 = .ok (.aload_n 0, 1) := by decide +kernel
theorem jd_nwc_54 : decode jc_nwc 54 = .ok (.getfield 22, 3) := by decide +kernel
theorem jd_nwc_57 : decode jc_nwc 57 = .ok (.ishr, 1) := by decide +kernel
theorem jd_nwc_58 : decode jc_nwc 58 = .ok (.ireturn, 1) := by decide +kernel
theorem jd_cat_0 : decode jc_cat 0 = .ok (.aload_n 0, 1) := by decide +kernel
theorem jd_cat_1 : decode jc_cat 1 = .ok (.getfield 22, 3) := by decide +kernel
theorem jd_cat_4 : decode jc_cat 4 = .ok (.istore_n 2, 1) := by decide +kernel
theorem jd_cat_5 : decode jc_cat 5 = .ok (.aload_n 0, 1) := by decide +kernel
theorem jd_cat_6 : decode jc_cat 6 = .ok (.getfield 15, 3) := by decide +kernel
theorem jd_cat_9 : decode jc_cat 9 = .ok (.astore_n 3, 1) := by decide +kernel
theorem jd_cat_10 : decode jc_cat 10 = .ok (.aload_n 0, 1) := by decide +kernel
theorem jd_cat_11 : decode jc_cat 11 = .ok (.getfield 79, 3) := by decide +kernel
theorem jd_cat_14 : decode jc_cat 14 = .ok (.aload_n 3, 1) := by decide +kernel
theorem jd_cat_15 : decode jc_cat 15 = .ok (.arraylength, 1) := by decide +kernel
theorem jd_cat_16 : decode jc_cat 16 = .ok (.iload_n 2, 1) := by decide +kernel
theorem jd_cat_17 : decode jc_cat 17 = .ok (.ishr, 1) := by decide +kernel
theorem jd_cat_18 : decode jc_cat 18 = .ok (.invokestatic 138, 3) := by decide +kernel
theorem jd_cat_21 : decode jc_cat 21 = .ok (.istore 4, 2) := by decide +kernel
theorem jd_cat_23 : decode jc_cat 23 = .ok (.iload_n 1, 1) := by decide +kernel
theorem jd_cat_24 : decode jc_cat 24 = .ok (.iload 4, 2) := by decide +kernel
theorem jd_cat_26 : decode jc_cat 26 = .ok (.invokestatic 144, 3) := by decide +kernel
theorem jd_cat_29 : decode jc_cat 29 = .ok (.iload_n 2, 1) := by decide +kernel
theorem jd_cat_30 : decode jc_cat 30 = .ok (.ifCond .ne 12, 3) := by decide +kernel
theorem jd_cat_33 : decode jc_cat 33 = .ok (.aload_n 3, 1) := by decide +kernel
theorem jd_cat_34 : decode jc_cat 34 = .ok (.iload_n 1, 1) := by decide +kernel
theorem jd_cat_35 : decode jc_cat 35 = .ok (.baload, 1) := by decide +kernel
theorem jd_cat_36 : decode jc_cat 36 = .ok (.sipush 255, 3) := by decide +kernel
theorem jd_cat_39 : decode jc_cat 39 = .ok (.iand, 1) := by decide +kernel
theorem jd_cat_40 : decode jc_cat 40 = .ok (.i2c, 1) := by decide +kernel
theorem jd_cat_41 : decode jc_cat 41 = .ok (.ireturn, 1) := by decide +kernel
theorem jd_cat_42 : decode jc_cat 42 = .ok (.aload_n 3, 1) := by decide +kernel
theorem jd_cat_43 : decode jc_cat 43 = .ok (.iload_n 1, 1) := by decide +kernel
theorem jd_cat_44 : decode jc_cat 44 = .ok (.invokestatic 148, 3) := by decide +kernel
theorem jd_cat_47 : decode jc_cat 47 = .ok (.ireturn, 1) := by decide +kernel
theorem jd_apc_0 : decode jc_apc 0 = .ok (.aload_n 0, 1) := by decide +kernel
theorem jd_apc_1 : decode jc_apc 1 = .ok (.aload_n 0, 1) := by decide +kernel
theorem jd_apc_2 : decode jc_apc 2 = .ok (.getfield 79, 3) := by decide +kernel
theorem jd_apc_5 : decode jc_apc 5 = .ok (.iconst 1, 1) := by decide +kernel
theorem jd_apc_6 : decode jc_apc 6 = .ok (.iadd, 1) := by decide +kernel
theorem jd_apc_7 : decode jc_apc 7 = .ok (.invokevirtual 100, 3) := by decide +kernel
theorem jd_apc_10 : decode jc_apc 10 = .ok (.aload_n 0, 1) := by decide +kernel
theorem jd_apc_11 : decode jc_apc 11 = .ok (.invokevirtual 83, 3) := by decide +kernel
theorem jd_apc_14 : decode jc_apc 14 = .ok (.ifCond .eq 31, 3) := by decide +kernel
theorem jd_apc_17 : decode jc_apc 17 = .ok (.iload_n 1, 1) := by decide +kernel
theorem jd_apc_18 : decode jc_apc 18 = .ok (.invokestatic 191, 3) := by decide +kernel
theorem jd_apc_21 : decode jc_apc 21 = .ok (.ifCond .eq 24, 3) := by decide +kernel
theorem jd_apc_24 : decode jc_apc 24 = .ok (.aload_n 0, 1) := by decide +kernel
theorem jd_apc_25 : decode jc_apc 25 = .ok (.getfield 15, 3) := by decide +kernel
theorem jd_apc_28 : decode jc_apc 28 = .ok (.aload_n 0, 1) := by decide +kernel
theorem jd_apc_29 : decode jc_apc 29 = .ok (.dup, 1) := by decide +kernel
theorem jd_apc_30 : decode jc_apc 30 = .ok (.getfield 79, 3) := by decide +kernel
theorem jd_apc_33 : decode jc_apc 33 = .ok (.dup_x1, 1) := by decide +kernel
theorem jd_apc_34 : decode jc_apc 34 = .ok (.iconst 1, 1) := by decide +kernel
theorem jd_apc_35 : decode jc_apc 35 = .ok (.iadd, 1) := by decide +kernel
theorem jd_apc_36 : decode jc_apc 36 = .ok (.putfield 79, 3) := by decide +kernel
theorem jd_apc_39 : decode jc_apc 39 = .ok (.iload_n 1, 1) := by decide +kernel
theorem jd_apc_40 : decode jc_apc 40 = .ok (.i2b, 1) := by decide +kernel
theorem jd_apc_41 : decode jc_apc 41 = .ok (.bastore, 1) := by decide +kernel
theorem jd_apc_42 : decode jc_apc 42 = .ok (.goto 33, 3) := by decide +kernel
theorem jd_apc_45 : decode jc_apc 45 = .ok (.aload_n 0, 1) := by decide +kernel
theorem jd_apc_46 : decode jc_apc 46 = .ok (.invokevirtual 83, 3) := by decide +kernel
theorem jd_apc_49 : decode jc_apc 49 = .ok (.ifCond .eq 7, 3) := by decide +kernel
theorem jd_apc_52 : decode jc_apc 52 = .ok (.aload_n 0, 1) := by decide +kernel
theorem jd_apc_53 : decode jc_apc 53 = .ok (.invokevirtual 195, 3) := by decide +kernel
theorem jd_apc_56 : decode jc_apc 56 = .ok (.aload_n 0, 1) := by decide +kernel
theorem jd_apc_57 : decode jc_apc 57 = .ok (.getfield 15, 3) := by decide +kernel
theorem jd_apc_60 : decode jc_apc 60 = .ok (.aload_n 0, 1) := by decide +kernel
theorem jd_apc_61 : decode jc_apc 61 = .ok (.dup, 1) := by decide +kernel
theorem jd_apc_62 : decode jc_apc 62 = .ok (.getfield 79, 3) := by decide +kernel
theorem jd_apc_65 : decode jc_apc 65 = .ok (.dup_x1, 1) := by decide +kernel
theorem jd_apc_66 : decode jc_apc 66 = .ok (.iconst 1, 1) := by decide +kernel
theorem jd_apc_67 : decode jc_apc 67 = .ok (.iadd, 1) := by decide +kernel
theorem jd_apc_68 : decode jc_apc 68 = .ok (.putfield 79, 3) := by decide +kernel
theorem jd_apc_71 : decode jc_apc 71 = .ok (.iload_n 1, 1) := by decide +kernel
theorem jd_apc_72 : decode jc_apc 72 = .ok (.invokestatic 197, 3) := by decide +kernel
theorem jd_apc_75 : decode jc_apc 75 = .ok (.aload_n 0, 1) := by decide +kernel
theorem jd_apc_76 : decode jc_apc 76 = .ok (.areturn, 1) := by decide +kernel
theorem jd_api_0 : decode jc_api 0 = .ok (.aload_n 0, 1) := by decide +kernel
theorem jd_api_1 : decode jc_api 1 = .ok (.getfield 79, 3) := by decide +kernel
theorem jd_api_4 : decode jc_api 4 = .ok (.istore_n 2, 1) := by decide +kernel
theorem jd_api_5 : decode jc_api 5 = .ok (.iload_n 2, 1) := by decide +kernel
theorem jd_api_6 : decode jc_api 6 = .ok (.iload_n 1, 1) := by decide +kernel
theorem jd_api_7 : decode jc_api 7 = .ok (.invokestatic 245, 3) := by decide +kernel
theorem jd_api_10 : decode jc_api 10 = .ok (.iadd, 1) := by decide +kernel
theorem jd_api_11 : decode jc_api 11 = .ok (.istore_n 3, 1) := by decide +kernel
theorem jd_api_12 : decode jc_api 12 = .ok (.aload_n 0, 1) := by decide +kernel
theorem jd_api_13 : decode jc_api 13 = .ok (.iload_n 3, 1) := by decide +kernel
theorem jd_api_14 : decode jc_api 14 = .ok (.invokevirtual 100, 3) := by decide +kernel
theorem jd_api_17 : decode jc_api 17 = .ok (.aload_n 0, 1) := by decide +kernel
theorem jd_api_18 : decode jc_api 18 = .ok (.invokevirtual 83, 3) := by decide +kernel
theorem jd_api_21 : decode jc_api 21 = .ok (.ifCond .eq 16, 3) := by decide +kernel
theorem jd_api_24 : decode jc_api 24 = .ok (.iload_n 1, 1) := by decide +kernel
theorem jd_api_25 : decode jc_api 25 = .ok (.iload_n 3, 1) := by decide +kernel
theorem jd_api_26 : decode jc_api 26 = .ok (.aload_n 0, 1) := by decide +kernel
theorem jd_api_27 : decode jc_api 27 = .ok (.getfield 15, 3) := by decide +kernel
theorem jd_api_30 : decode jc_api 30 = .ok (.invokestatic 248, 3) := by decide +kernel
theorem jd_api_33 : decode jc_api 33 = .ok (.pop, 1) := by decide +kernel
theorem jd_api_34 : decode jc_api 34 = .ok (.goto 14, 3) := by decide +kernel
theorem jd_api_37 : decode jc_api 37 = .ok (.iload_n 1, 1) := by decide +kernel
theorem jd_api_38 : decode jc_api 38 = .ok (.iload_n 2, 1) := by decide +kernel
theorem jd_api_39 : decode jc_api 39 = .ok (.iload_n 3, 1) := by decide +kernel
theorem jd_api_40 : decode jc_api 40 = .ok (.aload_n 0, 1) := by decide +kernel
theorem jd_api_41 : decode jc_api 41 = .ok (.getfield 15, 3) := by decide +kernel
theorem jd_api_44 : decode jc_api 44 = .ok (.invokestatic 251, 3) := by decide +kernel
theorem jd_api_47 : decode jc_api 47 = .ok (.pop, 1) := by decide +kernel
theorem jd_api_48 : decode jc_api 48 = .ok (.aload_n 0, 1) := by decide +kernel
theorem jd_api_49 : decode jc_api 49 = .ok (.iload_n 3, 1) := by decide +kernel
theorem jd_api_50 : decode jc_api 50 = .ok (.putfield 79, 3) := by decide +kernel
theorem jd_api_53 : decode jc_api 53 = .ok (.aload_n 0, 1) := by decide +kernel
theorem jd_api_54 : decode jc_api 54 = .ok (.areturn, 1) := by decide +kernel
theorem jd_isl_0 : decode jc_isl 0 = .ok (.getstatic 18, 3) := by decide +kernel
theorem jd_isl_3 : decode jc_isl 3 = .ok (.ifCond .eq 14, 3) := by decide +kernel
theorem jd_isl_6 : decode jc_isl 6 = .ok (.aload_n 0, 1) := by decide +kernel
theorem jd_isl_7 : decode jc_isl 7 = .ok (.getfield 22, 3) := by decide +kernel
theorem jd_isl_10 : decode jc_isl 10 = .ok (.ifCond .ne 7, 3) := by decide +kernel
theorem jd_isl_13 : decode jc_isl 13 = .ok (.iconst 1, 1) := by decide +kernel
theorem jd_isl_14 : decode jc_isl 14 = .ok (.goto 4, 3) := by decide +kernel
theorem jd_isl_17 : decode jc_isl 17 = .ok (.iconst 0, 1) := by decide +kernel
theorem jd_isl_18 : decode jc_isl 18 = .ok (.ireturn, 1) := by decide +kernel
theorem jd_gch_0 : decode jc_gch 0 = .ok (.iload_n 1, 1) := by decide +kernel
theorem jd_gch_1 : decode jc_gch 1 = .ok (.istore 5, 2) := by decide +kernel
theorem jd_gch_3 : decode jc_gch 3 = .ok (.iload_n 0, 1) := by decide +kernel
theorem jd_gch_4 : decode jc_gch 4 = .ok (.ifCond .ge 7, 3) := by decide +kernel
theorem jd_gch_7 : decode jc_gch 7 = .ok (.iconst 1, 1) := by decide +kernel
theorem jd_gch_8 : decode jc_gch 8 = .ok (.goto 4, 3) := by decide +kernel
theorem jd_gch_11 : decode jc_gch 11 = .ok (.iconst 0, 1) := by decide +kernel
theorem jd_gch_12 : decode jc_gch 12 = .ok (.istore 6, 2) := by decide +kernel
theorem jd_gch_14 : decode jc_gch 14 = .ok (.iload 6, 2) := by decide +kernel
theorem jd_gch_16 : decode jc_gch 16 = .ok (.ifCond .ne 6, 3) := by decide +kernel
theorem jd_gch_19 : decode jc_gch 19 = .ok (.iload_n 0, 1) := by decide +kernel
theorem jd_gch_20 : decode jc_gch 20 = .ok (.ineg, 1) := by decide +kernel
theorem jd_gch_21 : decode jc_gch 21 = .ok (.istore_n 0, 1) := by decide +kernel
theorem jd_gch_22 : decode jc_gch 22 = .ok (.iload_n 0, 1) := by decide +kernel
theorem jd_gch_23 : decode jc_gch 23 = .ok (.bipush (-100), 2) := by decide +kernel
theorem jd_gch_25 : decode jc_gch 25 = .ok (.if_icmp .gt 47, 3) := by decide +kernel
theorem jd_gch_28 : decode jc_gch 28 = .ok (.iload_n 0, 1) := by decide +kernel
theorem jd_gch_29 : decode jc_gch 29 = .ok (.bipush 100, 2) := by decide +kernel
theorem jd_gch_31 : decode jc_gch 31 = .ok (.idiv, 1) := by decide +kernel
theorem jd_gch_32 : decode jc_gch 32 = .ok (.istore_n 3, 1) := by decide +kernel
theorem jd_gch_33 : decode jc_gch 33 = .ok (.iload_n 3, 1) := by decide +kernel
theorem jd_gch_34 : decode jc_gch 34 = .ok (.bipush 100, 2) := by decide +kernel
theorem jd_gch_36 : decode jc_gch 36 = .ok (.imul, 1) := by decide +kernel
theorem jd_gch_37 : decode jc_gch 37 = .ok (.iload_n 0, 1) := by decide +kernel
theorem jd_gch_38 : decode jc_gch 38 = .ok (.isub, 1) := by decide +kernel
theorem jd_gch_39 : decode jc_gch 39 = .ok (.istore 4, 2) := by decide +kernel
theorem jd_gch_41 : decode jc_gch 41 = .ok (.iload_n 3, 1) := by decide +kernel
theorem jd_gch_42 : decode jc_gch 42 = .ok (.istore_n 0, 1) := by decide +kernel
theorem jd_gch_43 : decode jc_gch 43 = .ok (.aload_n 2, 1) := by decide +kernel
theorem jd_gch_44 : decode jc_gch 44 = .ok (.iinc 5 (-1), 3) := by decide +kernel
theorem jd_gch_47 : decode jc_gch 47 = .ok (.iload 5, 2) := by decide +kernel
theorem jd_gch_49 : decode jc_gch 49 = .ok (.getstatic 83, 3) := by decide +kernel
theorem jd_gch_52 : decode jc_gch 52 = .ok (.iload 4, 2) := by decide +kernel
theorem jd_gch_54 : decode jc_gch 54 = .ok (.baload, 1) := by decide +kernel
theorem jd_gch_55 : decode jc_gch 55 = .ok (.bastore, 1) := by decide +kernel
theorem jd_gch_56 : decode jc_gch 56 = .ok (.aload_n 2, 1) := by decide +kernel
theorem jd_gch_57 : decode jc_gch 57 = .ok (.iinc 5 (-1), 3) := by decide +kernel
theorem jd_gch_60 : decode jc_gch 60 = .ok (.iload 5, 2) := by decide +kernel
theorem jd_gch_62 : decode jc_gch 62 = .ok (.getstatic 87, 3) := by decide +kernel
theorem jd_gch_65 : decode jc_gch 65 = .ok (.iload 4, 2) := by decide +kernel
theorem jd_gch_67 : decode jc_gch 67 = .ok (.baload, 1) := by decide +kernel
theorem jd_gch_68 : decode jc_gch 68 = .ok (.bastore, 1) := by decide +kernel
theorem jd_gch_69 : decode jc_gch 69 = .ok (.goto (-47), 3) := by decide +kernel
theorem jd_gch_72 : decode jc_gch 72 = .ok (.aload_n 2, 1) := by decide +kernel
theorem jd_gch_73 : decode jc_gch 73 = .ok (.iinc 5 (-1), 3) := by decide +kernel
theorem jd_gch_76 : decode jc_gch 76 = .ok (.iload 5, 2) := by decide +kernel
theorem jd_gch_78 : decode jc_gch 78 = .ok (.getstatic 83, 3) := by decide +kernel
theorem jd_gch_81 : decode jc_gch 81 = .ok (.iload_n 0, 1) := by decide +kernel
theorem jd_gch_82 : decode jc_gch 82 = .ok (.ineg, 1) := by decide +kernel
theorem jd_gch_83 : decode jc_gch 83 = .ok (.baload, 1) := by decide +kernel
theorem jd_gch_84 : decode jc_gch 84 = .ok (.bastore, 1) := by decide +kernel
theorem jd_gch_85 : decode jc_gch 85 = .ok (.iload_n 0, 1) := by decide +kernel
theorem jd_gch_86 : decode jc_gch 86 = .ok (.bipush (-9), 2) := by decide +kernel
theorem jd_gch_88 : decode jc_gch 88 = .ok (.if_icmp .ge 16, 3) := by decide +kernel
theorem jd_gch_91 : decode jc_gch 91 = .ok (.aload_n 2, 1) := by decide +kernel
theorem jd_gch_92 : decode jc_gch 92 = .ok (.iinc 5 (-1), 3) := by decide +kernel
theorem jd_gch_95 : decode jc_gch 95 = .ok (.iload 5, 2) := by decide +kernel
theorem jd_gch_97 : decode jc_gch 97 = .ok (.getstatic 87, 3) := by decide +kernel
theorem jd_gch_100 : decode jc_gch 100 = .ok (.iload_n 0, 1) := by decide +kernel
theorem jd_gch_101 : decode jc_gch 101 = .ok (.ineg, 1) := by decide +kernel
theorem jd_gch_102 : decode jc_gch 102 = .ok (.baload, 1) := by decide +kernel
theorem jd_gch_103 : decode jc_gch 103 = .ok (.bastore, 1) := by decide +kernel
theorem jd_gch_104 : decode jc_gch 104 = .ok (.iload 6, 2) := by decide +kernel
theorem jd_gch_106 : decode jc_gch 106 = .ok (.ifCond .eq 12, 3) := by decide +kernel
theorem jd_gch_109 : decode jc_gch 109 = .ok (.aload_n 2, 1) := by decide +kernel
theorem jd_gch_110 : decode jc_gch 110 = .ok (.iinc 5 (-1), 3) := by decide +kernel
theorem jd_gch_113 : decode jc_gch 113 = .ok (.iload 5, 2) := by decide +kernel
theorem jd_gch_115 : decode jc_gch 115 = .ok (.bipush 45, 2) := by decide +kernel
theorem jd_gch_117 : decode jc_gch 117 = .ok (.bastore, 1) := by decide +kernel
theorem jd_gch_118 : decode jc_gch 118 = .ok (.iload 5, 2) := by decide +kernel
theorem jd_gch_120 : decode jc_gch 120 = .ok (.ireturn, 1) := by decide +kernel
theorem jd_ssz_0 : decode jc_ssz 0 = .ok (.iconst 1, 1) := by decide +kernel
theorem jd_ssz_1 : decode jc_ssz 1 = .ok (.istore_n 1, 1) := by decide +kernel
theorem jd_ssz_2 : decode jc_ssz 2 = .ok (.iload_n 0, 1) := by decide +kernel
theorem jd_ssz_3 : decode jc_ssz 3 = .ok (.ifCond .lt 8, 3) := by decide +kernel
theorem jd_ssz_6 : decode jc_ssz 6 = .ok (.iconst 0, 1) := by decide +kernel
theorem jd_ssz_7 : decode jc_ssz 7 = .ok (.istore_n 1, 1) := by decide +kernel
theorem jd_ssz_8 : decode jc_ssz 8 = .ok (.iload_n 0, 1) := by decide +kernel
theorem jd_ssz_9 : decode jc_ssz 9 = .ok (.ineg, 1) := by decide +kernel
theorem jd_ssz_10 : decode jc_ssz 10 = .ok (.istore_n 0, 1) := by decide +kernel
theorem jd_ssz_11 : decode jc_ssz 11 = .ok (.bipush (-10), 2) := by decide +kernel
theorem jd_ssz_13 : decode jc_ssz 13 = .ok (.istore_n 2, 1) := by decide +kernel
theorem jd_ssz_14 : decode jc_ssz 14 = .ok (.iconst 1, 1) := by decide +kernel
theorem jd_ssz_15 : decode jc_ssz 15 = .ok (.istore_n 3, 1) := by decide +kernel
theorem jd_ssz_16 : decode jc_ssz 16 = .ok (.iload_n 3, 1) := by decide +kernel
theorem jd_ssz_17 : decode jc_ssz 17 = .ok (.bipush 10, 2) := by decide +kernel
theorem jd_ssz_19 : decode jc_ssz 19 = .ok (.if_icmp .ge 23, 3) := by decide +kernel
theorem jd_ssz_22 : decode jc_ssz 22 = .ok (.iload_n 0, 1) := by decide +kernel
theorem jd_ssz_23 : decode jc_ssz 23 = .ok (.iload_n 2, 1) := by decide +kernel
theorem jd_ssz_24 : decode jc_ssz 24 = .ok (.if_icmp .le 7, 3) := by decide +kernel
theorem jd_ssz_27 : decode jc_ssz 27 = .ok (.iload_n 3, 1) := by decide +kernel
theorem jd_ssz_28 : decode jc_ssz 28 = .ok (.iload_n 1, 1) := by decide +kernel
theorem jd_ssz_29 : decode jc_ssz 29 = .ok (.iadd, 1) := by decide +kernel
theorem jd_ssz_30 : decode jc_ssz 30 = .ok (.ireturn, 1) := by decide +kernel
theorem jd_ssz_31 : decode jc_ssz 31 = .ok (.bipush 10, 2) := by decide +kernel
theorem jd_ssz_33 : decode jc_ssz 33 = .ok (.iload_n 2, 1) := by decide +kernel
theorem jd_ssz_34 : decode jc_ssz 34 = .ok (.imul, 1) := by decide +kernel
theorem jd_ssz_35 : decode jc_ssz 35 = .ok (.istore_n 2, 1) := by decide +kernel
theorem jd_ssz_36 : decode jc_ssz 36 = .ok (.iinc 3 1, 3) := by decide +kernel
theorem jd_ssz_39 : decode jc_ssz 39 = .ok (.goto (-23), 3) := by decide +kernel
theorem jd_ssz_42 : decode jc_ssz 42 = .ok (.bipush 10, 2) := by decide +kernel
theorem jd_ssz_44 : decode jc_ssz 44 = .ok (.iload_n 1, 1) := by decide +kernel
theorem jd_ssz_45 : decode jc_ssz 45 = .ok (.iadd, 1) := by decide +kernel
theorem jd_ssz_46 : decode jc_ssz 46 = .ok (.ireturn, 1) := by decide +kernel
theorem jd_mxm_0 : decode jc_mxm 0 = .ok (.iload_n 0, 1) := by decide +kernel
theorem jd_mxm_1 : decode jc_mxm 1 = .ok (.iload_n 1, 1) := by decide +kernel
theorem jd_mxm_2 : decode jc_mxm 2 = .ok (.if_icmp .lt 7, 3) := by decide +kernel
theorem jd_mxm_5 : decode jc_mxm 5 = .ok (.iload_n 0, 1) := by decide +kernel
theorem jd_mxm_6 : decode jc_mxm 6 = .ok (.goto 4, 3) := by decide +kernel
theorem jd_mxm_9 : decode jc_mxm 9 = .ok (.iload_n 1, 1) := by decide +kernel
theorem jd_mxm_10 : decode jc_mxm 10 = .ok (.ireturn, 1) := by decide +kernel
theorem jd_mnm_0 : decode jc_mnm 0 = .ok (.iload_n 0, 1) := by decide +kernel
theorem jd_mnm_1 : decode jc_mnm 1 = .ok (.iload_n 1, 1) := by decide +kernel
theorem jd_mnm_2 : decode jc_mnm 2 = .ok (.if_icmp .gt 7, 3) := by decide +kernel
theorem jd_mnm_5 : decode jc_mnm 5 = .ok (.iload_n 0, 1) := by decide +kernel
theorem jd_mnm_6 : decode jc_mnm 6 = .ok (.goto 4, 3) := by decide +kernel
theorem jd_mnm_9 : decode jc_mnm 9 = .ok (.iload_n 1, 1) := by decide +kernel
theorem jd_mnm_10 : decode jc_mnm 10 = .ok (.ireturn, 1) := by decide +kernel
theorem jd_sbc_0 : decode jc_sbc 0 = .ok (.aload_n 0, 1) := by decide +kernel
theorem jd_sbc_1 : decode jc_sbc 1 = .ok (.iload_n 1, 1) := by decide +kernel
theorem jd_sbc_2 : decode jc_sbc 2 = .ok (.invokespecial 50, 3) := by decide +kernel
theorem jd_sbc_5 : decode jc_sbc 5 = .ok (.pop, 1) := by decide +kernel
theorem jd_sbc_6 : decode jc_sbc 6 = .ok (.aload_n 0, 1) := by decide +kernel
theorem jd_sbc_7 : decode jc_sbc 7 = .ok (.areturn, 1) := by decide +kernel
theorem jd_sbn_0 : decode jc_sbn 0 = .ok (.aload_n 0, 1) := by decide +kernel
theorem jd_sbn_1 : decode jc_sbn 1 = .ok (.iload_n 1, 1) := by decide +kernel
theorem jd_sbn_2 : decode jc_sbn 2 = .ok (.invokespecial 53, 3) := by decide +kernel
theorem jd_sbn_5 : decode jc_sbn 5 = .ok (.pop, 1) := by decide +kernel
theorem jd_sbn_6 : decode jc_sbn 6 = .ok (.aload_n 0, 1) := by decide +kernel
theorem jd_sbn_7 : decode jc_sbn 7 = .ok (.areturn, 1) := by decide +kernel
theorem jd_sba_0 : decode jc_sba 0 = .ok (.aload_n 0, 1) := by decide +kernel
theorem jd_sba_1 : decode jc_sba 1 = .ok (.iload_n 1, 1) := by decide +kernel
theorem jd_sba_2 : decode jc_sba 2 = .ok (.invokespecial 329, 3) := by decide +kernel
theorem jd_sba_5 : decode jc_sba 5 = .ok (.ireturn, 1) := by decide +kernel
theorem jd_cen_0 : decode jc_cen 0 = .ok (.iload_n 0, 1) := by decide +kernel
theorem jd_cen_1 : decode jc_cen 1 = .ok (.sipush 255, 3) := by decide +kernel
theorem jd_cen_4 : decode jc_cen 4 = .ok (.if_icmp .gt 7, 3) := by decide +kernel
theorem jd_cen_7 : decode jc_cen 7 = .ok (.iconst 1, 1) := by decide +kernel
theorem jd_cen_8 : decode jc_cen 8 = .ok (.goto 4, 3) := by decide +kernel
theorem jd_cen_11 : decode jc_cen 11 = .ok (.iconst 0, 1) := by decide +kernel
theorem jd_cen_12 : decode jc_cen 12 = .ok (.ireturn, 1) := by decide +kernel
theorem jd_cpo_0 : decode jc_cpo 0 = .ok (.iload_n 1, 1) := by decide +kernel
theorem jd_cpo_1 : decode jc_cpo 1 = .ok (.aload_n 0, 1) := by decide +kernel
theorem jd_cpo_2 : decode jc_cpo 2 = .ok (.arraylength, 1) := by decide +kernel
theorem jd_cpo_3 : decode jc_cpo 3 = .ok (.if_icmp .ne 11, 3) := by decide +kernel
theorem jd_cpo_6 : decode jc_cpo 6 = .ok (.aload_n 0, 1) := by decide +kernel
theorem jd_cpo_7 : decode jc_cpo 7 = .ok (.invokevirtual 310, 3) := by decide +kernel
theorem jd_cpo_10 : decode jc_cpo 10 = .ok (.checkcast 311, 3) := by decide +kernel
theorem jd_cpo_13 : decode jc_cpo 13 = .ok (.areturn, 1) := by decide +kernel
theorem jd_cpo_14 : decode jc_cpo 14 = .ok (.iload_n 1, 1) := by decide +kernel
theorem jd_cpo_15 : decode jc_cpo 15 = .ok (.newarray .byte, 2) := by decide +kernel
theorem jd_cpo_17 : decode jc_cpo 17 = .ok (.astore_n 2, 1) := by decide +kernel
theorem jd_cpo_18 : decode jc_cpo 18 = .ok (.aload_n 0, 1) := by decide +kernel
theorem jd_cpo_19 : decode jc_cpo 19 = .ok (.iconst 0, 1) := by decide +kernel
theorem jd_cpo_20 : decode jc_cpo 20 = .ok (.aload_n 2, 1) := by decide +kernel
theorem jd_cpo_21 : decode jc_cpo 21 = .ok (.iconst 0, 1) := by decide +kernel
theorem jd_cpo_22 : decode jc_cpo 22 = .ok (.aload_n 0, 1) := by decide +kernel
theorem jd_cpo_23 : decode jc_cpo 23 = .ok (.arraylength, 1) := by decide +kernel
theorem jd_cpo_24 : decode jc_cpo 24 = .ok (.iload_n 1, 1) := by decide +kernel
theorem jd_cpo_25 : decode jc_cpo 25 = .ok (.invokestatic 304, 3) := by decide +kernel
theorem jd_cpo_28 : decode jc_cpo 28 = .ok (.invokestatic 150, 3) := by decide +kernel
theorem jd_cpo_31 : decode jc_cpo 31 = .ok (.aload_n 2, 1) := by decide +kernel
theorem jd_cpo_32 : decode jc_cpo 32 = .ok (.areturn, 1) := by decide +kernel
theorem jd_nwl_0 : decode jc_nwl 0 = .ok (.iload_n 0, 1) := by decide +kernel
theorem jd_nwl_1 : decode jc_nwl 1 = .ok (.iload_n 1, 1) := by decide +kernel
theorem jd_nwl_2 : decode jc_nwl 2 = .ok (.iload_n 2, 1) := by decide +kernel
theorem jd_nwl_3 : decode jc_nwl 3 = .ok (.invokestatic 194, 3) := by decide +kernel
theorem jd_nwl_6 : decode jc_nwl 6 = .ok (.iadd, 1) := by decide +kernel
theorem jd_nwl_7 : decode jc_nwl 7 = .ok (.istore_n 3, 1) := by decide +kernel
theorem jd_nwl_8 : decode jc_nwl 8 = .ok (.iconst 0, 1) := by decide +kernel
theorem jd_nwl_9 : decode jc_nwl 9 = .ok (.iload_n 3, 1) := by decide +kernel
theorem jd_nwl_10 : decode jc_nwl 10 = .ok (.if_icmp .ge 11, 3) := by decide +kernel
theorem jd_nwl_13 : decode jc_nwl 13 = .ok (.iload_n 3, 1) := by decide +kernel
theorem jd_nwl_14 : decode jc_nwl 14 = .ok (.ldc 200, 2) := by decide +kernel
theorem jd_nwl_16 : decode jc_nwl 16 = .ok (.if_icmp .gt 5, 3) := by decide +kernel
theorem jd_nwl_19 : decode jc_nwl 19 = .ok (.iload_n 3, 1) := by decide +kernel
theorem jd_nwl_20 : decode jc_nwl 20 = .ok (.ireturn, 1) := by decide +kernel
theorem jd_nwl_21 : decode jc_nwl 21 = .ok (.iload_n 0, 1) := by decide +kernel
theorem jd_nwl_22 : decode jc_nwl 22 = .ok (.iload_n 1, 1) := by decide +kernel
theorem jd_nwl_23 : decode jc_nwl 23 = .ok (.invokestatic 201, 3) := by decide +kernel
theorem jd_nwl_26 : decode jc_nwl 26 = .ok (.ireturn, 1) := by decide +kernel
