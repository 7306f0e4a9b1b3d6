/-! the four hand-made contracts -/
theorem q_len_0 : decode cJ0_length_8abf5 0 = .ok (.aload_n 0, 1) := by decide +kernel
theorem q_len_1 : decode cJ0_length_8abf5 1 = .ok (.getfield 9, 3) := by decide +kernel
theorem q_len_4 : decode cJ0_length_8abf5 4 = .ok (.arraylength, 1) := by decide +kernel
theorem q_len_5 : decode cJ0_length_8abf5 5 = .ok (.aload_n 0, 1) := by decide +kernel
theorem q_len_6 : decode cJ0_length_8abf5 6 = .ok (.invokevirtual 335, 3) := by decide +kernel
theorem q_len_9 : decode cJ0_length_8abf5 9 = .ok (.ishr, 1) := by decide +kernel
theorem q_len_10 : decode cJ0_length_8abf5 10 = .ok (.ireturn, 1) := by decide +kernel
theorem q_chr_0 : decode cJ0_charAt_5068e 0 = .ok (.aload_n 0, 1) := by decide +kernel
theorem q_chr_1 : decode cJ0_charAt_5068e 1 = .ok (.invokevirtual 492, 3) := by decide +kernel
theorem q_chr_4 : decode cJ0_charAt_5068e 4 = .ok (.ifCond .eq 12, 3) := by decide +kernel
theorem q_chr_7 : decode cJ0_charAt_5068e 7 = .ok (.aload_n 0, 1) := by decide +kernel
theorem q_chr_8 : decode cJ0_charAt_5068e 8 = .ok (.getfield 9, 3) := by decide +kernel
theorem q_chr_11 : decode cJ0_charAt_5068e 11 = .ok (.iload_n 1, 1) := by decide +kernel
theorem q_chr_12 : decode cJ0_charAt_5068e 12 = .ok (.invokestatic 495, 3) := by decide +kernel
theorem q_chr_15 : decode cJ0_charAt_5068e 15 = .ok (.ireturn, 1) := by decide +kernel
theorem q_chr_16 : decode cJ0_charAt_5068e 16 = .ok (.aload_n 0, 1) := by decide +kernel
theorem q_chr_17 : decode cJ0_charAt_5068e 17 = .ok (.getfield 9, 3) := by decide +kernel
theorem q_chr_20 : decode cJ0_charAt_5068e 20 = .ok (.iload_n 1, 1) := by decide +kernel
theorem q_chr_21 : decode cJ0_charAt_5068e 21 = .ok (.invokestatic 498, 3) := by decide +kernel
theorem q_chr_24 : decode cJ0_charAt_5068e 24 = .ok (.ireturn, 1) := by decide +kernel
theorem q_cod_0 : decode cJ0_coder_7d493 0 = .ok (.getstatic 38, 3) := by decide +kernel
theorem q_cod_3 : decode cJ0_coder_7d493 3 = .ok (.ifCond .eq 10, 3) := by decide +kernel
theorem q_cod_6 : decode cJ0_coder_7d493 6 = .ok (.aload_n 0, 1) := by decide +kernel
theorem q_cod_7 : decode cJ0_coder_7d493 7 = .ok (.getfield 15, 3) := by decide +kernel
theorem q_cod_10 : decode cJ0_coder_7d493 10 = .ok (.goto 4, 3) := by decide +kernel
theorem q_cod_13 : decode cJ0_coder_7d493 13 = .ok (.iconst 1, 1) := by decide +kernel
theorem q_cod_14 : decode cJ0_coder_7d493 14 = .ok (.ireturn, 1) := by decide +kernel
theorem q_lat_0 : decode cJ0_isLatin1_aae02 0 = .ok (.getstatic 38, 3) := by decide +kernel
theorem q_lat_3 : decode cJ0_isLatin1_aae02 3 = .ok (.ifCond .eq 14, 3) := by decide +kernel
theorem q_lat_6 : decode cJ0_isLatin1_aae02 6 = .ok (.aload_n 0, 1) := by decide +kernel
theorem q_lat_7 : decode cJ0_isLatin1_aae02 7 = .ok (.getfield 15, 3) := by decide +kernel
theorem q_lat_10 : decode cJ0_isLatin1_aae02 10 = .ok (.ifCond .ne 7, 3) := by decide +kernel
theorem q_lat_13 : decode cJ0_isLatin1_aae02 13 = .ok (.iconst 1, 1) := by decide +kernel
theorem q_lat_14 : decode cJ0_isLatin1_aae02 14 = .ok (.goto 4, 3) := by decide +kernel
theorem q_lat_17 : decode cJ0_isLatin1_aae02 17 = .ok (.iconst 0, 1) := by decide +kernel
theorem q_lat_18 : decode cJ0_isLatin1_aae02 18 = .ok (.ireturn, 1) := by decide +kernel
theorem q_chk_0 : decode cJ0_checkIndex_df160 0 = .ok (.iload_n 0, 1) := by decide +kernel
theorem q_chk_1 : decode cJ0_checkIndex_df160 1 = .ok (.iload_n 1, 1) := by decide +kernel
theorem q_chk_2 : decode cJ0_checkIndex_df160 2 = .ok (.getstatic 1053, 3) := by decide +kernel
theorem q_chk_5 : decode cJ0_checkIndex_df160 5 = .ok (.invokestatic 1059, 3) := by decide +kernel
theorem q_chk_8 : decode cJ0_checkIndex_df160 8 = .ok (.pop, 1) := by decide +kernel
theorem q_chk_9 : decode cJ0_checkIndex_df160 9 = .ok (.return_, 1) := by decide +kernel
theorem q_lch_0 : decode cJ1_charAt_3b067 0 = .ok (.iload_n 1, 1) := by decide +kernel
theorem q_lch_1 : decode cJ1_charAt_3b067 1 = .ok (.aload_n 0, 1) := by decide +kernel
theorem q_lch_2 : decode cJ1_charAt_3b067 2 = .ok (.arraylength, 1) := by decide +kernel
theorem q_lch_3 : decode cJ1_charAt_3b067 3 = .ok (.invokestatic 9, 3) := by decide +kernel
theorem q_lch_6 : decode cJ1_charAt_3b067 6 = .ok (.aload_n 0, 1) := by decide +kernel
theorem q_lch_7 : decode cJ1_charAt_3b067 7 = .ok (.iload_n 1, 1) := by decide +kernel
theorem q_lch_8 : decode cJ1_charAt_3b067 8 = .ok (.baload, 1) := by decide +kernel
theorem q_lch_9 : decode cJ1_charAt_3b067 9 = .ok (.sipush 255, 3) := by decide +kernel
theorem q_lch_12 : decode cJ1_charAt_3b067 12 = .ok (.iand, 1) := by decide +kernel
theorem q_lch_13 : decode cJ1_charAt_3b067 13 = .ok (.i2c, 1) := by decide +kernel
theorem q_lch_14 : decode cJ1_charAt_3b067 14 = .ok (.ireturn, 1) := by decide +kernel
theorem q_prc_0 : decode cJ3_checkIndex_8e157 0 = .ok (.iload_n 0, 1) := by decide +kernel
theorem q_prc_1 : decode cJ3_checkIndex_8e157 1 = .ok (.ifCond .lt 8, 3) := by decide +kernel
theorem q_prc_4 : decode cJ3_checkIndex_8e157 4 = .ok (.iload_n 0, 1) := by decide +kernel
theorem q_prc_5 : decode cJ3_checkIndex_8e157 5 = .ok (.iload_n 1, 1) := by decide +kernel
theorem q_prc_6 : decode cJ3_checkIndex_8e157 6 = .ok (.if_icmp .lt 10, 3) := by decide +kernel
theorem q_prc_9 : decode cJ3_checkIndex_8e157 9 = .ok (.aload_n 2, 1) := by decide +kernel
theorem q_prc_10 : decode cJ3_checkIndex_8e157 10 = .ok (.iload_n 0, 1) := by decide +kernel
theorem q_prc_11 : decode cJ3_checkIndex_8e157 11 = .ok (.iload_n 1, 1) := by decide +kernel
theorem q_prc_12 : decode cJ3_checkIndex_8e157 12 = .ok (.invokestatic 95, 3) := by decide +kernel
theorem q_prc_15 : decode cJ3_checkIndex_8e157 15 = .ok (.athrow, 1) := by decide +kernel
theorem q_prc_16 : decode cJ3_checkIndex_8e157 16 = .ok (.iload_n 0, 1) := by decide +kernel
theorem q_prc_17 : decode cJ3_checkIndex_8e157 17 = .ok (.ireturn, 1) := by decide +kernel
theorem q_mkr_0 : decode cX5_makeRoom 0 = .ok (.aload_n 0, 1) := by decide +kernel
theorem q_mkr_1 : decode cX5_makeRoom 1 = .ok (.getfield 27, 3) := by decide +kernel
theorem q_mkr_4 : decode cX5_makeRoom 4 = .ok (.getfield 86, 3) := by decide +kernel
theorem q_mkr_7 : decode cX5_makeRoom 7 = .ok (.iconst 1, 1) := by decide +kernel
theorem q_mkr_8 : decode cX5_makeRoom 8 = .ok (.if_icmp .ge 7, 3) := by decide +kernel
theorem q_mkr_11 : decode cX5_makeRoom 11 = .ok (.iconst 0, 1) := by decide +kernel
theorem q_mkr_12 : decode cX5_makeRoom 12 = .ok (.goto 25, 3) := by decide +kernel
theorem q_mkr_15 : decode cX5_makeRoom 15 = .ok (.iconst 1, 1) := by decide +kernel
theorem q_mkr_16 : decode cX5_makeRoom 16 = .ok (.aload_n 0, 1) := by decide +kernel
theorem q_mkr_17 : decode cX5_makeRoom 17 = .ok (.getfield 27, 3) := by decide +kernel
theorem q_mkr_20 : decode cX5_makeRoom 20 = .ok (.getfield 86, 3) := by decide +kernel
theorem q_mkr_23 : decode cX5_makeRoom 23 = .ok (.iconst 1, 1) := by decide +kernel
theorem q_mkr_24 : decode cX5_makeRoom 24 = .ok (.isub, 1) := by decide +kernel
theorem q_mkr_25 : decode cX5_makeRoom 25 = .ok (.ishl, 1) := by decide +kernel
theorem q_mkr_26 : decode cX5_makeRoom 26 = .ok (.aload_n 0, 1) := by decide +kernel
theorem q_mkr_27 : decode cX5_makeRoom 27 = .ok (.getfield 27, 3) := by decide +kernel
theorem q_mkr_30 : decode cX5_makeRoom 30 = .ok (.getfield 86, 3) := by decide +kernel
theorem q_mkr_33 : decode cX5_makeRoom 33 = .ok (.imul, 1) := by decide +kernel
theorem q_mkr_34 : decode cX5_makeRoom 34 = .ok (.bipush 21, 2) := by decide +kernel
theorem q_mkr_36 : decode cX5_makeRoom 36 = .ok (.imul, 1) := by decide +kernel
theorem q_mkr_37 : decode cX5_makeRoom 37 = .ok (.istore_n 1, 1) := by decide +kernel
theorem q_mkr_38 : decode cX5_makeRoom 38 = .ok (.aload_n 0, 1) := by decide +kernel
theorem q_mkr_39 : decode cX5_makeRoom 39 = .ok (.getfield 21, 3) := by decide +kernel
theorem q_mkr_42 : decode cX5_makeRoom 42 = .ok (.arraylength, 1) := by decide +kernel
theorem q_mkr_43 : decode cX5_makeRoom 43 = .ok (.iload_n 1, 1) := by decide +kernel
theorem q_mkr_44 : decode cX5_makeRoom 44 = .ok (.if_icmp .ge 10, 3) := by decide +kernel
theorem q_mkr_47 : decode cX5_makeRoom 47 = .ok (.aload_n 0, 1) := by decide +kernel
theorem q_mkr_48 : decode cX5_makeRoom 48 = .ok (.iload_n 1, 1) := by decide +kernel
theorem q_mkr_49 : decode cX5_makeRoom 49 = .ok (.newarray .int, 2) := by decide +kernel
theorem q_mkr_51 : decode cX5_makeRoom 51 = .ok (.putfield 21, 3) := by decide +kernel
theorem q_mkr_54 : decode cX5_makeRoom 54 = .ok (.return_, 1) := by decide +kernel
theorem q_stp_0 : decode cX10_init 0 = .ok (.aload_n 0, 1) := by decide +kernel
theorem q_stp_1 : decode cX10_init 1 = .ok (.aconst_null, 1) := by decide +kernel
theorem q_stp_2 : decode cX10_init 2 = .ok (.aconst_null, 1) := by decide +kernel
theorem q_stp_3 : decode cX10_init 3 = .ok (.iconst 0, 1) := by decide +kernel
theorem q_stp_4 : decode cX10_init 4 = .ok (.iconst 0, 1) := by decide +kernel
theorem q_stp_5 : decode cX10_init 5 = .ok (.invokespecial 1, 3) := by decide +kernel
theorem q_stp_8 : decode cX10_init 8 = .ok (.return_, 1) := by decide +kernel
theorem q_rte_0 : decode prog_17_method_5_code 0 = .ok (.aload_n 0, 1) := by decide +kernel
theorem q_rte_1 : decode prog_17_method_5_code 1 = .ok (.aload_n 1, 1) := by decide +kernel
theorem q_rte_2 : decode prog_17_method_5_code 2 = .ok (.aload_n 2, 1) := by decide +kernel
theorem q_rte_3 : decode prog_17_method_5_code 3 = .ok (.iload_n 3, 1) := by decide +kernel
theorem q_rte_4 : decode prog_17_method_5_code 4 = .ok (.iload 4, 2) := by decide +kernel
theorem q_rte_6 : decode prog_17_method_5_code 6 = .ok (.invokespecial 16, 3) := by decide +kernel
theorem q_rte_9 : decode prog_17_method_5_code 9 = .ok (.return_, 1) := by decide +kernel
theorem q_exc_0 : decode prog_14_method_5_code 0 = .ok (.aload_n 0, 1) := by decide +kernel
theorem q_exc_1 : decode prog_14_method_5_code 1 = .ok (.aload_n 1, 1) := by decide +kernel
theorem q_exc_2 : decode prog_14_method_5_code 2 = .ok (.aload_n 2, 1) := by decide +kernel
theorem q_exc_3 : decode prog_14_method_5_code 3 = .ok (.iload_n 3, 1) := by decide +kernel
theorem q_exc_4 : decode prog_14_method_5_code 4 = .ok (.iload 4, 2) := by decide +kernel
theorem q_exc_6 : decode prog_14_method_5_code 6 = .ok (.invokespecial 16, 3) := by decide +kernel
theorem q_exc_9 : decode prog_14_method_5_code 9 = .ok (.return_, 1) := by decide +kernel
theorem q_thr_0 : decode prog_21_method_5_code 0 = .ok (.aload_n 0, 1) := by decide +kernel
theorem q_thr_1 : decode prog_21_method_5_code 1 = .ok (.invokespecial 1, 3) := by decide +kernel
theorem q_thr_4 : decode prog_21_method_5_code 4 = .ok (.aload_n 0, 1) := by decide +kernel
theorem q_thr_5 : decode prog_21_method_5_code 5 = .ok (.aload_n 0, 1) := by decide +kernel
theorem q_thr_6 : decode prog_21_method_5_code 6 = .ok (.putfield 7, 3) := by decide +kernel
theorem q_thr_9 : decode prog_21_method_5_code 9 = .ok (.aload_n 0, 1) := by decide +kernel
theorem q_thr_10 : decode prog_21_method_5_code 10 = .ok (.getstatic 13, 3) := by decide +kernel
theorem q_thr_13 : decode prog_21_method_5_code 13 = .ok (.putfield 17, 3) := by decide +kernel
theorem q_thr_16 : decode prog_21_method_5_code 16 = .ok (.aload_n 0, 1) := by decide +kernel
theorem q_thr_17 : decode prog_21_method_5_code 17 = .ok (.getstatic 20, 3) := by decide +kernel
theorem q_thr_20 : decode prog_21_method_5_code 20 = .ok (.putfield 24, 3) := by decide +kernel
theorem q_thr_23 : decode prog_21_method_5_code 23 = .ok (.iload 4, 2) := by decide +kernel
theorem q_thr_25 : decode prog_21_method_5_code 25 = .ok (.ifCond .eq 11, 3) := by decide +kernel
theorem q_thr_36 : decode prog_21_method_5_code 36 = .ok (.aload_n 0, 1) := by decide +kernel
theorem q_thr_37 : decode prog_21_method_5_code 37 = .ok (.aconst_null, 1) := by decide +kernel
theorem q_thr_38 : decode prog_21_method_5_code 38 = .ok (.putfield 17, 3) := by decide +kernel
theorem q_thr_41 : decode prog_21_method_5_code 41 = .ok (.aload_n 0, 1) := by decide +kernel
theorem q_thr_42 : decode prog_21_method_5_code 42 = .ok (.aload_n 1, 1) := by decide +kernel
theorem q_thr_43 : decode prog_21_method_5_code 43 = .ok (.putfield 31, 3) := by decide +kernel
theorem q_thr_46 : decode prog_21_method_5_code 46 = .ok (.aload_n 0, 1) := by decide +kernel
theorem q_thr_47 : decode prog_21_method_5_code 47 = .ok (.aload_n 2, 1) := by decide +kernel
theorem q_thr_48 : decode prog_21_method_5_code 48 = .ok (.putfield 7, 3) := by decide +kernel
theorem q_thr_51 : decode prog_21_method_5_code 51 = .ok (.iload_n 3, 1) := by decide +kernel
theorem q_thr_52 : decode prog_21_method_5_code 52 = .ok (.ifCond .ne 8, 3) := by decide +kernel
theorem q_thr_55 : decode prog_21_method_5_code 55 = .ok (.aload_n 0, 1) := by decide +kernel
theorem q_thr_56 : decode prog_21_method_5_code 56 = .ok (.aconst_null, 1) := by decide +kernel
theorem q_thr_57 : decode prog_21_method_5_code 57 = .ok (.putfield 24, 3) := by decide +kernel
theorem q_thr_60 : decode prog_21_method_5_code 60 = .ok (.return_, 1) := by decide +kernel
theorem w_iS : Cond.initialized "java/lang/String" ∈ ai_tb := ai_tb_in (ai_wat_in (i := 102) (by decide +kernel))
theorem w_iL : Cond.initialized "java/lang/StringLatin1" ∈ ai_tb := ai_tb_in (ai_wat_in (i := 103) (by decide +kernel))
theorem w_iP : Cond.initialized "jdk/internal/util/Preconditions" ∈ ai_tb := ai_tb_in (ai_wat_in (i := 104) (by decide +kernel))
theorem w_iT : Cond.initialized "java/lang/Throwable" ∈ ai_tb := ai_tb_in (ai_wat_in (i := 97) (by decide +kernel))
theorem w_iE : Cond.initialized "java/lang/Exception" ∈ ai_tb := ai_tb_in (ai_wat_in (i := 98) (by decide +kernel))
theorem w_iR : Cond.initialized "java/lang/RuntimeException" ∈ ai_tb := ai_tb_in (ai_wat_in (i := 99) (by decide +kernel))
theorem w_fval : Cond.fieldLink "java/lang/String" 9 "java/lang/String" "value" "[B" ∈ ai_tb := ai_tb_in (ai_wat_in (i := 1659) (by decide +kernel))
theorem w_fcod : Cond.fieldLink "java/lang/String" 15 "java/lang/String" "coder" "B" ∈ ai_tb := ai_tb_in (ai_wat_in (i := 1660) (by decide +kernel))
theorem w_fcs : Cond.fieldLink "java/lang/String" 38 "java/lang/String" "COMPACT_STRINGS" "Z" ∈ ai_tb := ai_tb_in (ai_wat_in (i := 640) (by decide +kernel))
theorem w_ffm : Cond.fieldLink "java/lang/String" 1053 "jdk/internal/util/Preconditions" "SIOOBE_FORMATTER" "Ljava/util/function/BiFunction;" ∈ ai_tb := ai_tb_in (ai_wat_in (i := 656) (by decide +kernel))
theorem w_lcod : Cond.methodLink "java/lang/String" 335 ⟨"java/lang/String", "coder", "()B"⟩ ∈ ai_tb := ai_tb_in (ai_wat_in (i := 636) (by decide +kernel))
theorem w_icod : Cond.instanceMethod ⟨"java/lang/String", "coder", "()B"⟩ ∈ ai_tb := ai_tb_in (ai_wat_in (i := 637) (by decide +kernel))
theorem w_scod : Cond.selects "java/lang/String" ⟨"java/lang/String", "coder", "()B"⟩ ⟨"java/lang/String", "coder", "()B"⟩ ∈ ai_tb := ai_tb_in (ai_wat_in (i := 638) (by decide +kernel))
theorem w_llat : Cond.methodLink "java/lang/String" 492 ⟨"java/lang/String", "isLatin1", "()Z"⟩ ∈ ai_tb := ai_tb_in (ai_wat_in (i := 646) (by decide +kernel))
theorem w_ilat : Cond.instanceMethod ⟨"java/lang/String", "isLatin1", "()Z"⟩ ∈ ai_tb := ai_tb_in (ai_wat_in (i := 647) (by decide +kernel))
theorem w_slat : Cond.selects "java/lang/String" ⟨"java/lang/String", "isLatin1", "()Z"⟩ ⟨"java/lang/String", "isLatin1", "()Z"⟩ ∈ ai_tb := ai_tb_in (ai_wat_in (i := 648) (by decide +kernel))
theorem w_llch : Cond.methodLink "java/lang/String" 495 ⟨"java/lang/StringLatin1", "charAt", "([BI)C"⟩ ∈ ai_tb := ai_tb_in (ai_wat_in (i := 650) (by decide +kernel))
theorem w_tlch : Cond.static ⟨"java/lang/StringLatin1", "charAt", "([BI)C"⟩ ∈ ai_tb := ai_tb_in (ai_wat_in (i := 651) (by decide +kernel))
theorem w_lchk : Cond.methodLink "java/lang/StringLatin1" 9 ⟨"java/lang/String", "checkIndex", "(II)V"⟩ ∈ ai_tb := ai_tb_in (ai_wat_in (i := 653) (by decide +kernel))
theorem w_tchk : Cond.static ⟨"java/lang/String", "checkIndex", "(II)V"⟩ ∈ ai_tb := ai_tb_in (ai_wat_in (i := 654) (by decide +kernel))
theorem w_lprc : Cond.methodLink "java/lang/String" 1059 ⟨"jdk/internal/util/Preconditions", "checkIndex", "(IILjava/util/function/BiFunction;)I"⟩ ∈ ai_tb := ai_tb_in (ai_wat_in (i := 658) (by decide +kernel))
theorem w_tprc : Cond.static ⟨"jdk/internal/util/Preconditions", "checkIndex", "(IILjava/util/function/BiFunction;)I"⟩ ∈ ai_tb := ai_tb_in (ai_wat_in (i := 659) (by decide +kernel))
theorem w_lrte : Cond.methodLink "CourtProgressModel$Stop" 1 ⟨"java/lang/RuntimeException", "<init>", "(Ljava/lang/String;Ljava/lang/Throwable;ZZ)V"⟩ ∈ ai_tb := ai_tb_in (ai_wat_in (i := 1161) (by decide +kernel))
theorem w_irte : Cond.instanceMethod ⟨"java/lang/RuntimeException", "<init>", "(Ljava/lang/String;Ljava/lang/Throwable;ZZ)V"⟩ ∈ ai_tb := ai_tb_in (ai_wat_in (i := 1162) (by decide +kernel))
theorem w_lexc : Cond.methodLink "java/lang/RuntimeException" 16 ⟨"java/lang/Exception", "<init>", "(Ljava/lang/String;Ljava/lang/Throwable;ZZ)V"⟩ ∈ ai_tb := ai_tb_in (ai_wat_in (i := 1164) (by decide +kernel))
theorem w_iexc : Cond.instanceMethod ⟨"java/lang/Exception", "<init>", "(Ljava/lang/String;Ljava/lang/Throwable;ZZ)V"⟩ ∈ ai_tb := ai_tb_in (ai_wat_in (i := 1165) (by decide +kernel))
theorem w_lthr : Cond.methodLink "java/lang/Exception" 16 ⟨"java/lang/Throwable", "<init>", "(Ljava/lang/String;Ljava/lang/Throwable;ZZ)V"⟩ ∈ ai_tb := ai_tb_in (ai_wat_in (i := 1167) (by decide +kernel))
theorem w_ithr : Cond.instanceMethod ⟨"java/lang/Throwable", "<init>", "(Ljava/lang/String;Ljava/lang/Throwable;ZZ)V"⟩ ∈ ai_tb := ai_tb_in (ai_wat_in (i := 1168) (by decide +kernel))
theorem w_lobj : Cond.methodLink "java/lang/Throwable" 1 ⟨"java/lang/Object", "<init>", "()V"⟩ ∈ ai_tb := ai_tb_in (ai_wat_in (i := 1144) (by decide +kernel))
theorem w_fcau : Cond.fieldLink "java/lang/Throwable" 7 "java/lang/Throwable" "cause" "Ljava/lang/Throwable;" ∈ ai_tb := ai_tb_in (ai_wat_in (i := 1174) (by decide +kernel))
theorem w_fst : Cond.fieldLink "java/lang/Throwable" 17 "java/lang/Throwable" "stackTrace" "[Ljava/lang/StackTraceElement;" ∈ ai_tb := ai_tb_in (ai_wat_in (i := 1175) (by decide +kernel))
theorem w_fsu : Cond.fieldLink "java/lang/Throwable" 24 "java/lang/Throwable" "suppressedExceptions" "Ljava/util/List;" ∈ ai_tb := ai_tb_in (ai_wat_in (i := 1176) (by decide +kernel))
theorem w_fdm : Cond.fieldLink "java/lang/Throwable" 31 "java/lang/Throwable" "detailMessage" "Ljava/lang/String;" ∈ ai_tb := ai_tb_in (ai_wat_in (i := 1173) (by decide +kernel))
theorem w_fus : Cond.fieldLink "java/lang/Throwable" 13 "java/lang/Throwable" "UNASSIGNED_STACK" "[Ljava/lang/StackTraceElement;" ∈ ai_tb := ai_tb_in (ai_wat_in (i := 1145) (by decide +kernel))
theorem w_fss : Cond.fieldLink "java/lang/Throwable" 20 "java/lang/Throwable" "SUPPRESSED_SENTINEL" "Ljava/util/List;" ∈ ai_tb := ai_tb_in (ai_wat_in (i := 1147) (by decide +kernel))
theorem w_fland : Cond.fieldLink "CourtProgress$Router" 27 "CourtProgress$Router" "land" "LCourtProgress$Places;" ∈ ai_tb := ai_tb_in (ai_wat_in (i := 356) (by decide +kernel))
theorem w_fsize : Cond.fieldLink "CourtProgress$Router" 86 "CourtProgress$Places" "size" "I" ∈ ai_tb := ai_tb_in (ai_wat_in (i := 155) (by decide +kernel))
theorem w_fknown : Cond.fieldLink "CourtProgress$Router" 21 "CourtProgress$Router" "known" "[I" ∈ ai_tb := ai_tb_in (ai_wat_in (i := 365) (by decide +kernel))
set_option maxRecDepth 4000 in
theorem c_len : Cond.code yJ0_length_8abf5 cJ0_length_8abf5 1 (some .int) ∈ ai_tb := ai_tb_in ⟨ai_t3_in (List.mem_of_getElem? (i := 70) rfl), rfl⟩
set_option maxRecDepth 4000 in
theorem c_chr : Cond.code yJ0_charAt_5068e cJ0_charAt_5068e 2 (some .char) ∈ ai_tb := ai_tb_in ⟨ai_t3_in (List.mem_of_getElem? (i := 80) rfl), rfl⟩
set_option maxRecDepth 4000 in
theorem c_cod : Cond.code yJ0_coder_7d493 cJ0_coder_7d493 1 (some .byte) ∈ ai_tb := ai_tb_in ⟨ai_t3_in (List.mem_of_getElem? (i := 74) rfl), rfl⟩
set_option maxRecDepth 4000 in
theorem c_lat : Cond.code yJ0_isLatin1_aae02 cJ0_isLatin1_aae02 1 (some .boolean) ∈ ai_tb := ai_tb_in ⟨ai_t3_in (List.mem_of_getElem? (i := 84) rfl), rfl⟩
set_option maxRecDepth 4000 in
theorem c_chk : Cond.code yJ0_checkIndex_df160 cJ0_checkIndex_df160 2 none ∈ ai_tb := ai_tb_in ⟨ai_t3_in (List.mem_of_getElem? (i := 90) rfl), rfl⟩
set_option maxRecDepth 4000 in
theorem c_lch : Cond.code yJ1_charAt_3b067 cJ1_charAt_3b067 2 (some .char) ∈ ai_tb := ai_tb_in ⟨ai_t3_in (List.mem_of_getElem? (i := 87) rfl), rfl⟩
set_option maxRecDepth 4000 in
theorem c_prc : Cond.code yJ3_checkIndex_8e157 cJ3_checkIndex_8e157 3 (some .int) ∈ ai_tb := ai_tb_in ⟨ai_t3_in (List.mem_of_getElem? (i := 95) rfl), rfl⟩
set_option maxRecDepth 4000 in
theorem c_mkr : Cond.code yX5_makeRoom cX5_makeRoom 2 none ∈ ai_tb := ai_tb_in ⟨ai_t4_in (List.mem_of_getElem? (i := 182) rfl), rfl⟩
set_option maxRecDepth 4000 in
theorem c_stp : Cond.code yX10_init cX10_init 1 none ∈ ai_tb := ai_tb_in ⟨ai_t5_in (List.mem_of_getElem? (i := 115) rfl), rfl⟩
set_option maxRecDepth 4000 in
theorem c_rte : Cond.code ⟨"java/lang/RuntimeException", "<init>", "(Ljava/lang/String;Ljava/lang/Throwable;ZZ)V"⟩ prog_17_method_5_code 5 none ∈ ai_tb := ai_tb_in ⟨ai_t5_in (List.mem_of_getElem? (i := 118) rfl), rfl⟩
set_option maxRecDepth 4000 in
theorem c_exc : Cond.code ⟨"java/lang/Exception", "<init>", "(Ljava/lang/String;Ljava/lang/Throwable;ZZ)V"⟩ prog_14_method_5_code 5 none ∈ ai_tb := ai_tb_in ⟨ai_t5_in (List.mem_of_getElem? (i := 121) rfl), rfl⟩
set_option maxRecDepth 4000 in
theorem c_thr : Cond.code ⟨"java/lang/Throwable", "<init>", "(Ljava/lang/String;Ljava/lang/Throwable;ZZ)V"⟩ prog_21_method_5_code 5 none ∈ ai_tb := ai_tb_in ⟨ai_t5_in (List.mem_of_getElem? (i := 124) rfl), rfl⟩
