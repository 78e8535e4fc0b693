theorem dX0_init_0 : decode cX0_init 0 = .ok (.aload_n 0, 1) := by decide +kernel
theorem dX0_init_1 : decode cX0_init 1 = .ok (.invokespecial 3, 3) := by decide +kernel
theorem dX0_init_4 : decode cX0_init 4 = .ok (.aload_n 0, 1) := by decide +kernel
theorem dX0_init_5 : decode cX0_init 5 = .ok (.iload_n 1, 1) := by decide +kernel
theorem dX0_init_6 : decode cX0_init 6 = .ok (.putfield 9, 3) := by decide +kernel
theorem dX0_init_9 : decode cX0_init 9 = .ok (.aload_n 0, 1) := by decide +kernel
theorem dX0_init_10 : decode cX0_init 10 = .ok (.aload_n 2, 1) := by decide +kernel
theorem dX0_init_11 : decode cX0_init 11 = .ok (.putfield 15, 3) := by decide +kernel
theorem dX0_init_14 : decode cX0_init 14 = .ok (.aload_n 0, 1) := by decide +kernel
theorem dX0_init_15 : decode cX0_init 15 = .ok (.iload_n 3, 1) := by decide +kernel
theorem dX0_init_16 : decode cX0_init 16 = .ok (.putfield 19, 3) := by decide +kernel
theorem dX0_init_19 : decode cX0_init 19 = .ok (.aload_n 0, 1) := by decide +kernel
theorem dX0_init_20 : decode cX0_init 20 = .ok (.iload 4, 2) := by decide +kernel
theorem dX0_init_22 : decode cX0_init 22 = .ok (.putfield 22, 3) := by decide +kernel
theorem dX0_init_25 : decode cX0_init 25 = .ok (.aload_n 0, 1) := by decide +kernel
theorem dX0_init_26 : decode cX0_init 26 = .ok (.lload 5, 2) := by decide +kernel
theorem dX0_init_28 : decode cX0_init 28 = .ok (.putfield 25, 3) := by decide +kernel
theorem dX0_init_31 : decode cX0_init 31 = .ok (.return_, 1) := by decide +kernel
theorem dX0_hasPartThat_0 : decode cX0_hasPartThat 0 = .ok (.aload_n 0, 1) := by decide +kernel
theorem dX0_hasPartThat_1 : decode cX0_hasPartThat 1 = .ok (.getfield 29, 3) := by decide +kernel
theorem dX0_hasPartThat_4 : decode cX0_hasPartThat 4 = .ok (.astore_n 2, 1) := by decide +kernel
theorem dX0_hasPartThat_5 : decode cX0_hasPartThat 5 = .ok (.aload_n 2, 1) := by decide +kernel
theorem dX0_hasPartThat_6 : decode cX0_hasPartThat 6 = .ok (.ifnull 21, 3) := by decide +kernel
theorem dX0_hasPartThat_9 : decode cX0_hasPartThat 9 = .ok (.aload_n 2, 1) := by decide +kernel
theorem dX0_hasPartThat_10 : decode cX0_hasPartThat 10 = .ok (.getfield 33, 3) := by decide +kernel
theorem dX0_hasPartThat_13 : decode cX0_hasPartThat 13 = .ok (.iload_n 1, 1) := by decide +kernel
theorem dX0_hasPartThat_14 : decode cX0_hasPartThat 14 = .ok (.if_icmp .ne 5, 3) := by decide +kernel
theorem dX0_hasPartThat_17 : decode cX0_hasPartThat 17 = .ok (.iconst 1, 1) := by decide +kernel
theorem dX0_hasPartThat_18 : decode cX0_hasPartThat 18 = .ok (.ireturn, 1) := by decide +kernel
theorem dX0_hasPartThat_19 : decode cX0_hasPartThat 19 = .ok (.aload_n 2, 1) := by decide +kernel
theorem dX0_hasPartThat_20 : decode cX0_hasPartThat 20 = .ok (.getfield 38, 3) := by decide +kernel
theorem dX0_hasPartThat_23 : decode cX0_hasPartThat 23 = .ok (.astore_n 2, 1) := by decide +kernel
theorem dX0_hasPartThat_24 : decode cX0_hasPartThat 24 = .ok (.goto (-19), 3) := by decide +kernel
theorem dX0_hasPartThat_27 : decode cX0_hasPartThat 27 = .ok (.iconst 0, 1) := by decide +kernel
theorem dX0_hasPartThat_28 : decode cX0_hasPartThat 28 = .ok (.ireturn, 1) := by decide +kernel
theorem dX0_partsHad_0 : decode cX0_partsHad 0 = .ok (.iconst 0, 1) := by decide +kernel
theorem dX0_partsHad_1 : decode cX0_partsHad 1 = .ok (.istore_n 1, 1) := by decide +kernel
theorem dX0_partsHad_2 : decode cX0_partsHad 2 = .ok (.aload_n 0, 1) := by decide +kernel
theorem dX0_partsHad_3 : decode cX0_partsHad 3 = .ok (.getfield 29, 3) := by decide +kernel
theorem dX0_partsHad_6 : decode cX0_partsHad 6 = .ok (.astore_n 2, 1) := by decide +kernel
theorem dX0_partsHad_7 : decode cX0_partsHad 7 = .ok (.aload_n 2, 1) := by decide +kernel
theorem dX0_partsHad_8 : decode cX0_partsHad 8 = .ok (.ifnull 14, 3) := by decide +kernel
theorem dX0_partsHad_11 : decode cX0_partsHad 11 = .ok (.iinc 1 1, 3) := by decide +kernel
theorem dX0_partsHad_14 : decode cX0_partsHad 14 = .ok (.aload_n 2, 1) := by decide +kernel
theorem dX0_partsHad_15 : decode cX0_partsHad 15 = .ok (.getfield 38, 3) := by decide +kernel
theorem dX0_partsHad_18 : decode cX0_partsHad 18 = .ok (.astore_n 2, 1) := by decide +kernel
theorem dX0_partsHad_19 : decode cX0_partsHad 19 = .ok (.goto (-12), 3) := by decide +kernel
theorem dX0_partsHad_22 : decode cX0_partsHad 22 = .ok (.iload_n 1, 1) := by decide +kernel
theorem dX0_partsHad_23 : decode cX0_partsHad 23 = .ok (.ireturn, 1) := by decide +kernel
theorem dX0_wholeCopies_0 : decode cX0_wholeCopies 0 = .ok (.iconst 0, 1) := by decide +kernel
theorem dX0_wholeCopies_1 : decode cX0_wholeCopies 1 = .ok (.istore_n 1, 1) := by decide +kernel
theorem dX0_wholeCopies_2 : decode cX0_wholeCopies 2 = .ok (.aload_n 0, 1) := by decide +kernel
theorem dX0_wholeCopies_3 : decode cX0_wholeCopies 3 = .ok (.getfield 29, 3) := by decide +kernel
theorem dX0_wholeCopies_6 : decode cX0_wholeCopies 6 = .ok (.astore_n 2, 1) := by decide +kernel
theorem dX0_wholeCopies_7 : decode cX0_wholeCopies 7 = .ok (.aload_n 2, 1) := by decide +kernel
theorem dX0_wholeCopies_8 : decode cX0_wholeCopies 8 = .ok (.ifnull 18, 3) := by decide +kernel
theorem dX0_wholeCopies_11 : decode cX0_wholeCopies 11 = .ok (.iload_n 1, 1) := by decide +kernel
theorem dX0_wholeCopies_12 : decode cX0_wholeCopies 12 = .ok (.aload_n 2, 1) := by decide +kernel
theorem dX0_wholeCopies_13 : decode cX0_wholeCopies 13 = .ok (.getfield 41, 3) := by decide +kernel
theorem dX0_wholeCopies_16 : decode cX0_wholeCopies 16 = .ok (.iadd, 1) := by decide +kernel
theorem dX0_wholeCopies_17 : decode cX0_wholeCopies 17 = .ok (.istore_n 1, 1) := by decide +kernel
theorem dX0_wholeCopies_18 : decode cX0_wholeCopies 18 = .ok (.aload_n 2, 1) := by decide +kernel
theorem dX0_wholeCopies_19 : decode cX0_wholeCopies 19 = .ok (.getfield 38, 3) := by decide +kernel
theorem dX0_wholeCopies_22 : decode cX0_wholeCopies 22 = .ok (.astore_n 2, 1) := by decide +kernel
theorem dX0_wholeCopies_23 : decode cX0_wholeCopies 23 = .ok (.goto (-16), 3) := by decide +kernel
theorem dX0_wholeCopies_26 : decode cX0_wholeCopies 26 = .ok (.iload_n 1, 1) := by decide +kernel
theorem dX0_wholeCopies_27 : decode cX0_wholeCopies 27 = .ok (.ireturn, 1) := by decide +kernel
theorem dX0_pagesThatCount_0 : decode cX0_pagesThatCount 0 = .ok (.iconst 0, 1) := by decide +kernel
theorem dX0_pagesThatCount_1 : decode cX0_pagesThatCount 1 = .ok (.istore_n 1, 1) := by decide +kernel
theorem dX0_pagesThatCount_2 : decode cX0_pagesThatCount 2 = .ok (.aload_n 0, 1) := by decide +kernel
theorem dX0_pagesThatCount_3 : decode cX0_pagesThatCount 3 = .ok (.getfield 29, 3) := by decide +kernel
theorem dX0_pagesThatCount_6 : decode cX0_pagesThatCount 6 = .ok (.astore_n 2, 1) := by decide +kernel
theorem dX0_pagesThatCount_7 : decode cX0_pagesThatCount 7 = .ok (.aload_n 2, 1) := by decide +kernel
theorem dX0_pagesThatCount_8 : decode cX0_pagesThatCount 8 = .ok (.ifnull 28, 3) := by decide +kernel
theorem dX0_pagesThatCount_11 : decode cX0_pagesThatCount 11 = .ok (.iload_n 1, 1) := by decide +kernel
theorem dX0_pagesThatCount_12 : decode cX0_pagesThatCount 12 = .ok (.aload_n 2, 1) := by decide +kernel
theorem dX0_pagesThatCount_13 : decode cX0_pagesThatCount 13 = .ok (.getfield 41, 3) := by decide +kernel
theorem dX0_pagesThatCount_16 : decode cX0_pagesThatCount 16 = .ok (.aload_n 0, 1) := by decide +kernel
theorem dX0_pagesThatCount_17 : decode cX0_pagesThatCount 17 = .ok (.getfield 19, 3) := by decide +kernel
theorem dX0_pagesThatCount_20 : decode cX0_pagesThatCount 20 = .ok (.imul, 1) := by decide +kernel
theorem dX0_pagesThatCount_21 : decode cX0_pagesThatCount 21 = .ok (.aload_n 2, 1) := by decide +kernel
theorem dX0_pagesThatCount_22 : decode cX0_pagesThatCount 22 = .ok (.getfield 44, 3) := by decide +kernel
theorem dX0_pagesThatCount_25 : decode cX0_pagesThatCount 25 = .ok (.iadd, 1) := by decide +kernel
theorem dX0_pagesThatCount_26 : decode cX0_pagesThatCount 26 = .ok (.iadd, 1) := by decide +kernel
theorem dX0_pagesThatCount_27 : decode cX0_pagesThatCount 27 = .ok (.istore_n 1, 1) := by decide +kernel
theorem dX0_pagesThatCount_28 : decode cX0_pagesThatCount 28 = .ok (.aload_n 2, 1) := by decide +kernel
theorem dX0_pagesThatCount_29 : decode cX0_pagesThatCount 29 = .ok (.getfield 38, 3) := by decide +kernel
theorem dX0_pagesThatCount_32 : decode cX0_pagesThatCount 32 = .ok (.astore_n 2, 1) := by decide +kernel
theorem dX0_pagesThatCount_33 : decode cX0_pagesThatCount 33 = .ok (.goto (-26), 3) := by decide +kernel
theorem dX0_pagesThatCount_36 : decode cX0_pagesThatCount 36 = .ok (.iload_n 1, 1) := by decide +kernel
theorem dX0_pagesThatCount_37 : decode cX0_pagesThatCount 37 = .ok (.ireturn, 1) := by decide +kernel
set_option maxRecDepth 20000 in
theorem ggX0_condition_X0_hasPartThat : GoodIn wsX0_condition wsX0_hasPartThat := goodIn_r _ [6, 7, 8, 9, 10, 11, 12, 13, 14, 15, 16, 17, 18, 19, 20, 21, 22, 23, 24] (by decide +kernel) (by decide +kernel)
set_option maxRecDepth 20000 in
theorem gX0_condition_X0_hasPartThat : GoodIn wsX0_condition (wsV RX0 51 RX0 yX0_hasPartThat wsX0_hasPartThat) := goodIn_app (goodIn_of _ (by decide +kernel)) ggX0_condition_X0_hasPartThat
theorem dX0_condition_0 : decode cX0_condition 0 = .ok (.aload_n 0, 1) := by decide +kernel
theorem dX0_condition_1 : decode cX0_condition 1 = .ok (.getfield 47, 3) := by decide +kernel
theorem dX0_condition_4 : decode cX0_condition 4 = .ok (.ifCond .eq 5, 3) := by decide +kernel
theorem dX0_condition_7 : decode cX0_condition 7 = .ok (.iconst 3, 1) := by decide +kernel
theorem dX0_condition_8 : decode cX0_condition 8 = .ok (.ireturn, 1) := by decide +kernel
theorem dX0_condition_9 : decode cX0_condition 9 = .ok (.aload_n 0, 1) := by decide +kernel
theorem dX0_condition_10 : decode cX0_condition 10 = .ok (.iconst 1, 1) := by decide +kernel
theorem dX0_condition_11 : decode cX0_condition 11 = .ok (.invokevirtual 51, 3) := by decide +kernel
theorem dX0_condition_14 : decode cX0_condition 14 = .ok (.ifCond .eq 5, 3) := by decide +kernel
theorem dX0_condition_17 : decode cX0_condition 17 = .ok (.iconst 1, 1) := by decide +kernel
theorem dX0_condition_18 : decode cX0_condition 18 = .ok (.ireturn, 1) := by decide +kernel
theorem dX0_condition_19 : decode cX0_condition 19 = .ok (.aload_n 0, 1) := by decide +kernel
theorem dX0_condition_20 : decode cX0_condition 20 = .ok (.iconst 0, 1) := by decide +kernel
theorem dX0_condition_21 : decode cX0_condition 21 = .ok (.invokevirtual 51, 3) := by decide +kernel
theorem dX0_condition_24 : decode cX0_condition 24 = .ok (.ifCond .eq 7, 3) := by decide +kernel
theorem dX0_condition_27 : decode cX0_condition 27 = .ok (.iconst 0, 1) := by decide +kernel
theorem dX0_condition_28 : decode cX0_condition 28 = .ok (.goto 4, 3) := by decide +kernel
theorem dX0_condition_31 : decode cX0_condition 31 = .ok (.iconst 2, 1) := by decide +kernel
theorem dX0_condition_32 : decode cX0_condition 32 = .ok (.ireturn, 1) := by decide +kernel
theorem dX1_init_0 : decode cX1_init 0 = .ok (.aload_n 0, 1) := by decide +kernel
theorem dX1_init_1 : decode cX1_init 1 = .ok (.invokespecial 1, 3) := by decide +kernel
theorem dX1_init_4 : decode cX1_init 4 = .ok (.aload_n 0, 1) := by decide +kernel
theorem dX1_init_5 : decode cX1_init 5 = .ok (.aload_n 1, 1) := by decide +kernel
theorem dX1_init_6 : decode cX1_init 6 = .ok (.putfield 7, 3) := by decide +kernel
theorem dX1_init_9 : decode cX1_init 9 = .ok (.aload_n 0, 1) := by decide +kernel
theorem dX1_init_10 : decode cX1_init 10 = .ok (.iload_n 2, 1) := by decide +kernel
theorem dX1_init_11 : decode cX1_init 11 = .ok (.putfield 13, 3) := by decide +kernel
theorem dX1_init_14 : decode cX1_init 14 = .ok (.aload_n 0, 1) := by decide +kernel
theorem dX1_init_15 : decode cX1_init 15 = .ok (.iload_n 3, 1) := by decide +kernel
theorem dX1_init_16 : decode cX1_init 16 = .ok (.putfield 17, 3) := by decide +kernel
theorem dX1_init_19 : decode cX1_init 19 = .ok (.return_, 1) := by decide +kernel
theorem dX1_untouchedCopies_0 : decode cX1_untouchedCopies 0 = .ok (.aload_n 0, 1) := by decide +kernel
theorem dX1_untouchedCopies_1 : decode cX1_untouchedCopies 1 = .ok (.getfield 17, 3) := by decide +kernel
theorem dX1_untouchedCopies_4 : decode cX1_untouchedCopies 4 = .ok (.aload_n 0, 1) := by decide +kernel
theorem dX1_untouchedCopies_5 : decode cX1_untouchedCopies 5 = .ok (.getfield 20, 3) := by decide +kernel
theorem dX1_untouchedCopies_8 : decode cX1_untouchedCopies 8 = .ok (.isub, 1) := by decide +kernel
theorem dX1_untouchedCopies_9 : decode cX1_untouchedCopies 9 = .ok (.aload_n 0, 1) := by decide +kernel
theorem dX1_untouchedCopies_10 : decode cX1_untouchedCopies 10 = .ok (.getfield 23, 3) := by decide +kernel
theorem dX1_untouchedCopies_13 : decode cX1_untouchedCopies 13 = .ok (.ifCond .le 7, 3) := by decide +kernel
theorem dX1_untouchedCopies_16 : decode cX1_untouchedCopies 16 = .ok (.iconst 1, 1) := by decide +kernel
theorem dX1_untouchedCopies_17 : decode cX1_untouchedCopies 17 = .ok (.goto 4, 3) := by decide +kernel
theorem dX1_untouchedCopies_20 : decode cX1_untouchedCopies 20 = .ok (.iconst 0, 1) := by decide +kernel
theorem dX1_untouchedCopies_21 : decode cX1_untouchedCopies 21 = .ok (.isub, 1) := by decide +kernel
theorem dX1_untouchedCopies_22 : decode cX1_untouchedCopies 22 = .ok (.ireturn, 1) := by decide +kernel
theorem dX1_countPages_0 : decode cX1_countPages 0 = .ok (.aload_n 0, 1) := by decide +kernel
theorem dX1_countPages_1 : decode cX1_countPages 1 = .ok (.dup, 1) := by decide +kernel
theorem dX1_countPages_2 : decode cX1_countPages 2 = .ok (.getfield 23, 3) := by decide +kernel
theorem dX1_countPages_5 : decode cX1_countPages 5 = .ok (.iload_n 1, 1) := by decide +kernel
theorem dX1_countPages_6 : decode cX1_countPages 6 = .ok (.iadd, 1) := by decide +kernel
theorem dX1_countPages_7 : decode cX1_countPages 7 = .ok (.putfield 23, 3) := by decide +kernel
theorem dX1_countPages_10 : decode cX1_countPages 10 = .ok (.aload_n 0, 1) := by decide +kernel
theorem dX1_countPages_11 : decode cX1_countPages 11 = .ok (.getfield 23, 3) := by decide +kernel
theorem dX1_countPages_14 : decode cX1_countPages 14 = .ok (.aload_n 0, 1) := by decide +kernel
theorem dX1_countPages_15 : decode cX1_countPages 15 = .ok (.getfield 7, 3) := by decide +kernel
theorem dX1_countPages_18 : decode cX1_countPages 18 = .ok (.getfield 26, 3) := by decide +kernel
theorem dX1_countPages_21 : decode cX1_countPages 21 = .ok (.if_icmp .lt 18, 3) := by decide +kernel
theorem dX1_countPages_24 : decode cX1_countPages 24 = .ok (.aload_n 0, 1) := by decide +kernel
theorem dX1_countPages_25 : decode cX1_countPages 25 = .ok (.iconst 0, 1) := by decide +kernel
theorem dX1_countPages_26 : decode cX1_countPages 26 = .ok (.putfield 23, 3) := by decide +kernel
theorem dX1_countPages_29 : decode cX1_countPages 29 = .ok (.aload_n 0, 1) := by decide +kernel
theorem dX1_countPages_30 : decode cX1_countPages 30 = .ok (.dup, 1) := by decide +kernel
theorem dX1_countPages_31 : decode cX1_countPages 31 = .ok (.getfield 20, 3) := by decide +kernel
theorem dX1_countPages_34 : decode cX1_countPages 34 = .ok (.iconst 1, 1) := by decide +kernel
theorem dX1_countPages_35 : decode cX1_countPages 35 = .ok (.iadd, 1) := by decide +kernel
theorem dX1_countPages_36 : decode cX1_countPages 36 = .ok (.putfield 20, 3) := by decide +kernel
theorem dX1_countPages_39 : decode cX1_countPages 39 = .ok (.return_, 1) := by decide +kernel
theorem dX2_init_0 : decode cX2_init 0 = .ok (.aload_n 0, 1) := by decide +kernel
theorem dX2_init_1 : decode cX2_init 1 = .ok (.invokespecial 3, 3) := by decide +kernel
theorem dX2_init_4 : decode cX2_init 4 = .ok (.aload_n 0, 1) := by decide +kernel
theorem dX2_init_5 : decode cX2_init 5 = .ok (.iload_n 1, 1) := by decide +kernel
theorem dX2_init_6 : decode cX2_init 6 = .ok (.putfield 9, 3) := by decide +kernel
theorem dX2_init_9 : decode cX2_init 9 = .ok (.aload_n 0, 1) := by decide +kernel
theorem dX2_init_10 : decode cX2_init 10 = .ok (.iload_n 2, 1) := by decide +kernel
theorem dX2_init_11 : decode cX2_init 11 = .ok (.putfield 15, 3) := by decide +kernel
theorem dX2_init_14 : decode cX2_init 14 = .ok (.aload_n 0, 1) := by decide +kernel
theorem dX2_init_15 : decode cX2_init 15 = .ok (.iload_n 3, 1) := by decide +kernel
theorem dX2_init_16 : decode cX2_init 16 = .ok (.putfield 18, 3) := by decide +kernel
theorem dX2_init_19 : decode cX2_init 19 = .ok (.return_, 1) := by decide +kernel
theorem dX2_fits_0 : decode cX2_fits 0 = .ok (.aload_n 0, 1) := by decide +kernel
theorem dX2_fits_1 : decode cX2_fits 1 = .ok (.getfield 18, 3) := by decide +kernel
theorem dX2_fits_4 : decode cX2_fits 4 = .ok (.aload_n 1, 1) := by decide +kernel
theorem dX2_fits_5 : decode cX2_fits 5 = .ok (.getfield 21, 3) := by decide +kernel
theorem dX2_fits_8 : decode cX2_fits 8 = .ok (.getfield 27, 3) := by decide +kernel
theorem dX2_fits_11 : decode cX2_fits 11 = .ok (.getfield 33, 3) := by decide +kernel
theorem dX2_fits_14 : decode cX2_fits 14 = .ok (.if_icmp .lt 25, 3) := by decide +kernel
theorem dX2_fits_17 : decode cX2_fits 17 = .ok (.aload_n 1, 1) := by decide +kernel
theorem dX2_fits_18 : decode cX2_fits 18 = .ok (.getfield 36, 3) := by decide +kernel
theorem dX2_fits_21 : decode cX2_fits 21 = .ok (.ifCond .eq 14, 3) := by decide +kernel
theorem dX2_fits_24 : decode cX2_fits 24 = .ok (.aload_n 1, 1) := by decide +kernel
theorem dX2_fits_25 : decode cX2_fits 25 = .ok (.getfield 36, 3) := by decide +kernel
theorem dX2_fits_28 : decode cX2_fits 28 = .ok (.aload_n 0, 1) := by decide +kernel
theorem dX2_fits_29 : decode cX2_fits 29 = .ok (.getfield 9, 3) := by decide +kernel
theorem dX2_fits_32 : decode cX2_fits 32 = .ok (.if_icmp .ne 7, 3) := by decide +kernel
theorem dX2_fits_35 : decode cX2_fits 35 = .ok (.iconst 1, 1) := by decide +kernel
theorem dX2_fits_36 : decode cX2_fits 36 = .ok (.goto 4, 3) := by decide +kernel
theorem dX2_fits_39 : decode cX2_fits 39 = .ok (.iconst 0, 1) := by decide +kernel
theorem dX2_fits_40 : decode cX2_fits 40 = .ok (.ireturn, 1) := by decide +kernel
theorem dX3_init_0 : decode cX3_init 0 = .ok (.aload_n 0, 1) := by decide +kernel
theorem dX3_init_1 : decode cX3_init 1 = .ok (.invokespecial 1, 3) := by decide +kernel
theorem dX3_init_4 : decode cX3_init 4 = .ok (.aload_n 0, 1) := by decide +kernel
theorem dX3_init_5 : decode cX3_init 5 = .ok (.iload_n 1, 1) := by decide +kernel
theorem dX3_init_6 : decode cX3_init 6 = .ok (.putfield 7, 3) := by decide +kernel
theorem dX3_init_9 : decode cX3_init 9 = .ok (.aload_n 0, 1) := by decide +kernel
theorem dX3_init_10 : decode cX3_init 10 = .ok (.iload_n 2, 1) := by decide +kernel
theorem dX3_init_11 : decode cX3_init 11 = .ok (.putfield 13, 3) := by decide +kernel
theorem dX3_init_14 : decode cX3_init 14 = .ok (.return_, 1) := by decide +kernel
theorem dX4_init_0 : decode cX4_init 0 = .ok (.aload_n 0, 1) := by decide +kernel
theorem dX4_init_1 : decode cX4_init 1 = .ok (.invokespecial 1, 3) := by decide +kernel
theorem dX4_init_4 : decode cX4_init 4 = .ok (.aload_n 0, 1) := by decide +kernel
theorem dX4_init_5 : decode cX4_init 5 = .ok (.bipush 8, 2) := by decide +kernel
theorem dX4_init_7 : decode cX4_init 7 = .ok (.anewarray 9, 3) := by decide +kernel
theorem dX4_init_10 : decode cX4_init 10 = .ok (.putfield 11, 3) := by decide +kernel
theorem dX4_init_13 : decode cX4_init 13 = .ok (.aload_n 0, 1) := by decide +kernel
theorem dX4_init_14 : decode cX4_init 14 = .ok (.bipush 20, 2) := by decide +kernel
theorem dX4_init_16 : decode cX4_init 16 = .ok (.anewarray 15, 3) := by decide +kernel
theorem dX4_init_19 : decode cX4_init 19 = .ok (.putfield 17, 3) := by decide +kernel
theorem dX4_init_22 : decode cX4_init 22 = .ok (.aload_n 0, 1) := by decide +kernel
theorem dX4_init_23 : decode cX4_init 23 = .ok (.bipush 60, 2) := by decide +kernel
theorem dX4_init_25 : decode cX4_init 25 = .ok (.anewarray 21, 3) := by decide +kernel
theorem dX4_init_28 : decode cX4_init 28 = .ok (.putfield 23, 3) := by decide +kernel
theorem dX4_init_31 : decode cX4_init 31 = .ok (.aload_n 0, 1) := by decide +kernel
theorem dX4_init_32 : decode cX4_init 32 = .ok (.sipush 256, 3) := by decide +kernel
theorem dX4_init_35 : decode cX4_init 35 = .ok (.newarray .int, 2) := by decide +kernel
theorem dX4_init_37 : decode cX4_init 37 = .ok (.putfield 27, 3) := by decide +kernel
theorem dX4_init_40 : decode cX4_init 40 = .ok (.aload_n 0, 1) := by decide +kernel
theorem dX4_init_41 : decode cX4_init 41 = .ok (.sipush 256, 3) := by decide +kernel
theorem dX4_init_44 : decode cX4_init 44 = .ok (.newarray .int, 2) := by decide +kernel
theorem dX4_init_46 : decode cX4_init 46 = .ok (.putfield 31, 3) := by decide +kernel
theorem dX4_init_49 : decode cX4_init 49 = .ok (.aload_n 0, 1) := by decide +kernel
theorem dX4_init_50 : decode cX4_init 50 = .ok (.iconst 3, 1) := by decide +kernel
theorem dX4_init_51 : decode cX4_init 51 = .ok (.putfield 34, 3) := by decide +kernel
theorem dX4_init_54 : decode cX4_init 54 = .ok (.return_, 1) := by decide +kernel
set_option maxRecDepth 20000 in
theorem ggX4_printer_X4_isWithin : GoodIn wsX4_printer wsX4_isWithin := goodIn_r _ [13] (by decide +kernel) (by decide +kernel)
set_option maxRecDepth 20000 in
theorem gX4_printer_X4_isWithin : GoodIn wsX4_printer (va_wsS RX4 38 yX4_isWithin wsX4_isWithin) := goodIn_app (goodIn_of _ (by decide +kernel)) ggX4_printer_X4_isWithin
set_option maxRecDepth 20000 in
theorem ggX4_printer_X2_init : GoodIn wsX4_printer wsX2_init := goodIn_r _ [16, 17, 18, 19, 20, 21, 22, 34, 35, 36, 37, 38, 39] (by decide +kernel) (by decide +kernel)
set_option maxRecDepth 20000 in
theorem gX4_printer_X2_init : GoodIn wsX4_printer (wsX2_init) := ggX4_printer_X2_init
theorem dX4_printer_0 : decode cX4_printer 0 = .ok (.iload_n 1, 1) := by decide +kernel
theorem dX4_printer_1 : decode cX4_printer 1 = .ok (.iconst 0, 1) := by decide +kernel
theorem dX4_printer_2 : decode cX4_printer 2 = .ok (.bipush 7, 2) := by decide +kernel
theorem dX4_printer_4 : decode cX4_printer 4 = .ok (.invokestatic 38, 3) := by decide +kernel
theorem dX4_printer_7 : decode cX4_printer 7 = .ok (.ifCond .eq 12, 3) := by decide +kernel
theorem dX4_printer_10 : decode cX4_printer 10 = .ok (.iload_n 2, 1) := by decide +kernel
theorem dX4_printer_11 : decode cX4_printer 11 = .ok (.iconst 1, 1) := by decide +kernel
theorem dX4_printer_12 : decode cX4_printer 12 = .ok (.iconst 2, 1) := by decide +kernel
theorem dX4_printer_13 : decode cX4_printer 13 = .ok (.invokestatic 38, 3) := by decide +kernel
theorem dX4_printer_16 : decode cX4_printer 16 = .ok (.ifCond .ne 11, 3) := by decide +kernel
theorem dX4_printer_19 : decode cX4_printer 19 = .ok (.new 42, 3) := by decide +kernel
theorem dX4_printer_22 : decode cX4_printer 22 = .ok (.dup, 1) := by decide +kernel
theorem dX4_printer_23 : decode cX4_printer 23 = .ok (.invokespecial 44, 3) := by decide +kernel
theorem dX4_printer_26 : decode cX4_printer 26 = .ok (.athrow, 1) := by decide +kernel
theorem dX4_printer_27 : decode cX4_printer 27 = .ok (.aload_n 0, 1) := by decide +kernel
theorem dX4_printer_28 : decode cX4_printer 28 = .ok (.getfield 45, 3) := by decide +kernel
theorem dX4_printer_31 : decode cX4_printer 31 = .ok (.aload_n 0, 1) := by decide +kernel
theorem dX4_printer_32 : decode cX4_printer 32 = .ok (.getfield 11, 3) := by decide +kernel
theorem dX4_printer_35 : decode cX4_printer 35 = .ok (.arraylength, 1) := by decide +kernel
theorem dX4_printer_36 : decode cX4_printer 36 = .ok (.if_icmp .lt 11, 3) := by decide +kernel
theorem dX4_printer_39 : decode cX4_printer 39 = .ok (.new 48, 3) := by decide +kernel
theorem dX4_printer_42 : decode cX4_printer 42 = .ok (.dup, 1) := by decide +kernel
theorem dX4_printer_43 : decode cX4_printer 43 = .ok (.invokespecial 50, 3) := by decide +kernel
theorem dX4_printer_46 : decode cX4_printer 46 = .ok (.athrow, 1) := by decide +kernel
theorem dX4_printer_47 : decode cX4_printer 47 = .ok (.aload_n 0, 1) := by decide +kernel
theorem dX4_printer_48 : decode cX4_printer 48 = .ok (.getfield 11, 3) := by decide +kernel
theorem dX4_printer_51 : decode cX4_printer 51 = .ok (.aload_n 0, 1) := by decide +kernel
theorem dX4_printer_52 : decode cX4_printer 52 = .ok (.getfield 45, 3) := by decide +kernel
theorem dX4_printer_55 : decode cX4_printer 55 = .ok (.new 9, 3) := by decide +kernel
theorem dX4_printer_58 : decode cX4_printer 58 = .ok (.dup, 1) := by decide +kernel
theorem dX4_printer_59 : decode cX4_printer 59 = .ok (.aload_n 0, 1) := by decide +kernel
theorem dX4_printer_60 : decode cX4_printer 60 = .ok (.getfield 45, 3) := by decide +kernel
theorem dX4_printer_63 : decode cX4_printer 63 = .ok (.iconst 1, 1) := by decide +kernel
theorem dX4_printer_64 : decode cX4_printer 64 = .ok (.iadd, 1) := by decide +kernel
theorem dX4_printer_65 : decode cX4_printer 65 = .ok (.iload_n 1, 1) := by decide +kernel
theorem dX4_printer_66 : decode cX4_printer 66 = .ok (.iload_n 2, 1) := by decide +kernel
theorem dX4_printer_67 : decode cX4_printer 67 = .ok (.invokespecial 51, 3) := by decide +kernel
theorem dX4_printer_70 : decode cX4_printer 70 = .ok (.aastore, 1) := by decide +kernel
theorem dX4_printer_71 : decode cX4_printer 71 = .ok (.aload_n 0, 1) := by decide +kernel
theorem dX4_printer_72 : decode cX4_printer 72 = .ok (.dup, 1) := by decide +kernel
theorem dX4_printer_73 : decode cX4_printer 73 = .ok (.getfield 45, 3) := by decide +kernel
theorem dX4_printer_76 : decode cX4_printer 76 = .ok (.iconst 1, 1) := by decide +kernel
theorem dX4_printer_77 : decode cX4_printer 77 = .ok (.iadd, 1) := by decide +kernel
theorem dX4_printer_78 : decode cX4_printer 78 = .ok (.putfield 45, 3) := by decide +kernel
theorem dX4_printer_81 : decode cX4_printer 81 = .ok (.aload_n 0, 1) := by decide +kernel
theorem dX4_printer_82 : decode cX4_printer 82 = .ok (.getfield 45, 3) := by decide +kernel
theorem dX4_printer_85 : decode cX4_printer 85 = .ok (.ireturn, 1) := by decide +kernel
set_option maxRecDepth 20000 in
theorem ggX4_ticket_X4_isWithin : GoodIn wsX4_ticket wsX4_isWithin := goodIn_r _ [13] (by decide +kernel) (by decide +kernel)
set_option maxRecDepth 20000 in
theorem gX4_ticket_X4_isWithin : GoodIn wsX4_ticket (va_wsS RX4 38 yX4_isWithin wsX4_isWithin) := goodIn_app (goodIn_of _ (by decide +kernel)) ggX4_ticket_X4_isWithin
set_option maxRecDepth 20000 in
theorem ggX4_ticket_X3_init : GoodIn wsX4_ticket wsX3_init := goodIn_r _ [16, 17, 18, 19, 20, 21, 33, 34, 35, 36, 37, 38] (by decide +kernel) (by decide +kernel)
set_option maxRecDepth 20000 in
theorem gX4_ticket_X3_init : GoodIn wsX4_ticket (wsX3_init) := ggX4_ticket_X3_init
theorem dX4_ticket_0 : decode cX4_ticket 0 = .ok (.iload_n 1, 1) := by decide +kernel
theorem dX4_ticket_1 : decode cX4_ticket 1 = .ok (.iconst 0, 1) := by decide +kernel
theorem dX4_ticket_2 : decode cX4_ticket 2 = .ok (.bipush 7, 2) := by decide +kernel
theorem dX4_ticket_4 : decode cX4_ticket 4 = .ok (.invokestatic 38, 3) := by decide +kernel
theorem dX4_ticket_7 : decode cX4_ticket 7 = .ok (.ifCond .eq 21, 3) := by decide +kernel
theorem dX4_ticket_10 : decode cX4_ticket 10 = .ok (.iload_n 2, 1) := by decide +kernel
theorem dX4_ticket_11 : decode cX4_ticket 11 = .ok (.iconst 1, 1) := by decide +kernel
theorem dX4_ticket_12 : decode cX4_ticket 12 = .ok (.iconst 2, 1) := by decide +kernel
theorem dX4_ticket_13 : decode cX4_ticket 13 = .ok (.invokestatic 38, 3) := by decide +kernel
theorem dX4_ticket_16 : decode cX4_ticket 16 = .ok (.ifCond .eq 12, 3) := by decide +kernel
theorem dX4_ticket_19 : decode cX4_ticket 19 = .ok (.iload_n 3, 1) := by decide +kernel
theorem dX4_ticket_20 : decode cX4_ticket 20 = .ok (.iconst 0, 1) := by decide +kernel
theorem dX4_ticket_21 : decode cX4_ticket 21 = .ok (.iconst 3, 1) := by decide +kernel
theorem dX4_ticket_22 : decode cX4_ticket 22 = .ok (.invokestatic 38, 3) := by decide +kernel
theorem dX4_ticket_25 : decode cX4_ticket 25 = .ok (.ifCond .ne 11, 3) := by decide +kernel
theorem dX4_ticket_28 : decode cX4_ticket 28 = .ok (.new 42, 3) := by decide +kernel
theorem dX4_ticket_31 : decode cX4_ticket 31 = .ok (.dup, 1) := by decide +kernel
theorem dX4_ticket_32 : decode cX4_ticket 32 = .ok (.invokespecial 44, 3) := by decide +kernel
theorem dX4_ticket_35 : decode cX4_ticket 35 = .ok (.athrow, 1) := by decide +kernel
theorem dX4_ticket_36 : decode cX4_ticket 36 = .ok (.aload_n 0, 1) := by decide +kernel
theorem dX4_ticket_37 : decode cX4_ticket 37 = .ok (.getfield 54, 3) := by decide +kernel
theorem dX4_ticket_40 : decode cX4_ticket 40 = .ok (.aload_n 0, 1) := by decide +kernel
theorem dX4_ticket_41 : decode cX4_ticket 41 = .ok (.getfield 17, 3) := by decide +kernel
theorem dX4_ticket_44 : decode cX4_ticket 44 = .ok (.arraylength, 1) := by decide +kernel
theorem dX4_ticket_45 : decode cX4_ticket 45 = .ok (.if_icmp .lt 11, 3) := by decide +kernel
theorem dX4_ticket_48 : decode cX4_ticket 48 = .ok (.new 48, 3) := by decide +kernel
theorem dX4_ticket_51 : decode cX4_ticket 51 = .ok (.dup, 1) := by decide +kernel
theorem dX4_ticket_52 : decode cX4_ticket 52 = .ok (.invokespecial 50, 3) := by decide +kernel
theorem dX4_ticket_55 : decode cX4_ticket 55 = .ok (.athrow, 1) := by decide +kernel
theorem dX4_ticket_56 : decode cX4_ticket 56 = .ok (.aload_n 0, 1) := by decide +kernel
theorem dX4_ticket_57 : decode cX4_ticket 57 = .ok (.getfield 17, 3) := by decide +kernel
theorem dX4_ticket_60 : decode cX4_ticket 60 = .ok (.aload_n 0, 1) := by decide +kernel
theorem dX4_ticket_61 : decode cX4_ticket 61 = .ok (.getfield 54, 3) := by decide +kernel
theorem dX4_ticket_64 : decode cX4_ticket 64 = .ok (.new 15, 3) := by decide +kernel
theorem dX4_ticket_67 : decode cX4_ticket 67 = .ok (.dup, 1) := by decide +kernel
theorem dX4_ticket_68 : decode cX4_ticket 68 = .ok (.iload_n 1, 1) := by decide +kernel
theorem dX4_ticket_69 : decode cX4_ticket 69 = .ok (.iload_n 2, 1) := by decide +kernel
theorem dX4_ticket_70 : decode cX4_ticket 70 = .ok (.invokespecial 57, 3) := by decide +kernel
theorem dX4_ticket_73 : decode cX4_ticket 73 = .ok (.aastore, 1) := by decide +kernel
theorem dX4_ticket_74 : decode cX4_ticket 74 = .ok (.aload_n 0, 1) := by decide +kernel
theorem dX4_ticket_75 : decode cX4_ticket 75 = .ok (.dup, 1) := by decide +kernel
theorem dX4_ticket_76 : decode cX4_ticket 76 = .ok (.getfield 54, 3) := by decide +kernel
theorem dX4_ticket_79 : decode cX4_ticket 79 = .ok (.iconst 1, 1) := by decide +kernel
theorem dX4_ticket_80 : decode cX4_ticket 80 = .ok (.iadd, 1) := by decide +kernel
theorem dX4_ticket_81 : decode cX4_ticket 81 = .ok (.putfield 54, 3) := by decide +kernel
theorem dX4_ticket_84 : decode cX4_ticket 84 = .ok (.aload_n 0, 1) := by decide +kernel
theorem dX4_ticket_85 : decode cX4_ticket 85 = .ok (.getfield 54, 3) := by decide +kernel
theorem dX4_ticket_88 : decode cX4_ticket 88 = .ok (.ireturn, 1) := by decide +kernel
set_option maxRecDepth 20000 in
theorem ggX4_job_X4_findTicket : GoodIn wsX4_job wsX4_findTicket := goodIn_ca (goodIn_r _ [18, 19, 20, 21, 22, 23, 17, 24, 43, 44, 45, 46, 47, 48, 49, 50, 51, 52, 53] (by decide +kernel) (by decide +kernel)) (goodIn_sub (fun _ h => List.mem_cons_of_mem _ (List.mem_append_right _ h)) (by decide +kernel))
set_option maxRecDepth 20000 in
theorem gX4_job_X4_findTicket : GoodIn wsX4_job (wsV RX4 60 RX4 yX4_findTicket wsX4_findTicket) := goodIn_app (goodIn_of _ (by decide +kernel)) ggX4_job_X4_findTicket
set_option maxRecDepth 20000 in
theorem ggX4_job_X4_isWithin : GoodIn wsX4_job wsX4_isWithin := goodIn_r _ [24] (by decide +kernel) (by decide +kernel)
set_option maxRecDepth 20000 in
theorem gX4_job_X4_isWithin : GoodIn wsX4_job (va_wsS RX4 38 yX4_isWithin wsX4_isWithin) := goodIn_app (goodIn_of _ (by decide +kernel)) ggX4_job_X4_isWithin
set_option maxRecDepth 20000 in
theorem ggX4_job_X0_init : GoodIn wsX4_job wsX0_init := goodIn_r _ [27, 28, 29, 30, 31, 32, 33, 34, 35, 54, 55, 56, 57, 58, 59, 60, 61] (by decide +kernel) (by decide +kernel)
set_option maxRecDepth 20000 in
theorem gX4_job_X0_init : GoodIn wsX4_job (wsX0_init) := ggX4_job_X0_init
set_option maxRecDepth 20000 in
theorem ggX4_job_X1_init : GoodIn wsX4_job wsX1_init := goodIn_r _ [38, 39, 29, 30, 40, 41, 42, 62, 63, 64, 65, 66, 67, 68] (by decide +kernel) (by decide +kernel)
set_option maxRecDepth 20000 in
theorem gX4_job_X1_init : GoodIn wsX4_job (wsX1_init) := ggX4_job_X1_init
theorem dX4_job_0 : decode cX4_job 0 = .ok (.aload_n 0, 1) := by decide +kernel
theorem dX4_job_1 : decode cX4_job 1 = .ok (.iload_n 1, 1) := by decide +kernel
theorem dX4_job_2 : decode cX4_job 2 = .ok (.invokevirtual 60, 3) := by decide +kernel
theorem dX4_job_5 : decode cX4_job 5 = .ok (.astore 7, 2) := by decide +kernel
theorem dX4_job_7 : decode cX4_job 7 = .ok (.iload_n 2, 1) := by decide +kernel
theorem dX4_job_8 : decode cX4_job 8 = .ok (.iconst 1, 1) := by decide +kernel
theorem dX4_job_9 : decode cX4_job 9 = .ok (.sipush 500, 3) := by decide +kernel
theorem dX4_job_12 : decode cX4_job 12 = .ok (.invokestatic 38, 3) := by decide +kernel
theorem dX4_job_15 : decode cX4_job 15 = .ok (.ifCond .eq 31, 3) := by decide +kernel
theorem dX4_job_18 : decode cX4_job 18 = .ok (.iload_n 3, 1) := by decide +kernel
theorem dX4_job_19 : decode cX4_job 19 = .ok (.iconst 1, 1) := by decide +kernel
theorem dX4_job_20 : decode cX4_job 20 = .ok (.bipush 100, 2) := by decide +kernel
theorem dX4_job_22 : decode cX4_job 22 = .ok (.invokestatic 38, 3) := by decide +kernel
theorem dX4_job_25 : decode cX4_job 25 = .ok (.ifCond .eq 21, 3) := by decide +kernel
theorem dX4_job_28 : decode cX4_job 28 = .ok (.iload 4, 2) := by decide +kernel
theorem dX4_job_30 : decode cX4_job 30 = .ok (.iconst 0, 1) := by decide +kernel
theorem dX4_job_31 : decode cX4_job 31 = .ok (.bipush 9, 2) := by decide +kernel
theorem dX4_job_33 : decode cX4_job 33 = .ok (.invokestatic 38, 3) := by decide +kernel
theorem dX4_job_36 : decode cX4_job 36 = .ok (.ifCond .eq 10, 3) := by decide +kernel
theorem dX4_job_39 : decode cX4_job 39 = .ok (.lload 5, 2) := by decide +kernel
theorem dX4_job_41 : decode cX4_job 41 = .ok (.lconst 0, 1) := by decide +kernel
theorem dX4_job_42 : decode cX4_job 42 = .ok (.lcmp, 1) := by decide +kernel
theorem dX4_job_43 : decode cX4_job 43 = .ok (.ifCond .ge 11, 3) := by decide +kernel
theorem dX4_job_46 : decode cX4_job 46 = .ok (.new 42, 3) := by decide +kernel
theorem dX4_job_49 : decode cX4_job 49 = .ok (.dup, 1) := by decide +kernel
theorem dX4_job_50 : decode cX4_job 50 = .ok (.invokespecial 44, 3) := by decide +kernel
theorem dX4_job_53 : decode cX4_job 53 = .ok (.athrow, 1) := by decide +kernel
theorem dX4_job_54 : decode cX4_job 54 = .ok (.aload_n 0, 1) := by decide +kernel
theorem dX4_job_55 : decode cX4_job 55 = .ok (.getfield 64, 3) := by decide +kernel
theorem dX4_job_58 : decode cX4_job 58 = .ok (.aload_n 0, 1) := by decide +kernel
theorem dX4_job_59 : decode cX4_job 59 = .ok (.getfield 23, 3) := by decide +kernel
theorem dX4_job_62 : decode cX4_job 62 = .ok (.arraylength, 1) := by decide +kernel
theorem dX4_job_63 : decode cX4_job 63 = .ok (.if_icmp .lt 11, 3) := by decide +kernel
theorem dX4_job_66 : decode cX4_job 66 = .ok (.new 48, 3) := by decide +kernel
theorem dX4_job_69 : decode cX4_job 69 = .ok (.dup, 1) := by decide +kernel
theorem dX4_job_70 : decode cX4_job 70 = .ok (.invokespecial 50, 3) := by decide +kernel
theorem dX4_job_73 : decode cX4_job 73 = .ok (.athrow, 1) := by decide +kernel
theorem dX4_job_74 : decode cX4_job 74 = .ok (.new 21, 3) := by decide +kernel
theorem dX4_job_77 : decode cX4_job 77 = .ok (.dup, 1) := by decide +kernel
theorem dX4_job_78 : decode cX4_job 78 = .ok (.aload_n 0, 1) := by decide +kernel
theorem dX4_job_79 : decode cX4_job 79 = .ok (.getfield 64, 3) := by decide +kernel
theorem dX4_job_82 : decode cX4_job 82 = .ok (.iconst 1, 1) := by decide +kernel
theorem dX4_job_83 : decode cX4_job 83 = .ok (.iadd, 1) := by decide +kernel
theorem dX4_job_84 : decode cX4_job 84 = .ok (.aload 7, 2) := by decide +kernel
theorem dX4_job_86 : decode cX4_job 86 = .ok (.iload_n 2, 1) := by decide +kernel
theorem dX4_job_87 : decode cX4_job 87 = .ok (.iload 4, 2) := by decide +kernel
theorem dX4_job_89 : decode cX4_job 89 = .ok (.lload 5, 2) := by decide +kernel
theorem dX4_job_91 : decode cX4_job 91 = .ok (.invokespecial 67, 3) := by decide +kernel
theorem dX4_job_94 : decode cX4_job 94 = .ok (.astore 8, 2) := by decide +kernel
theorem dX4_job_96 : decode cX4_job 96 = .ok (.aload 8, 2) := by decide +kernel
theorem dX4_job_98 : decode cX4_job 98 = .ok (.new 70, 3) := by decide +kernel
theorem dX4_job_101 : decode cX4_job 101 = .ok (.dup, 1) := by decide +kernel
theorem dX4_job_102 : decode cX4_job 102 = .ok (.aload 8, 2) := by decide +kernel
theorem dX4_job_104 : decode cX4_job 104 = .ok (.iconst 0, 1) := by decide +kernel
theorem dX4_job_105 : decode cX4_job 105 = .ok (.iload_n 3, 1) := by decide +kernel
theorem dX4_job_106 : decode cX4_job 106 = .ok (.invokespecial 72, 3) := by decide +kernel
theorem dX4_job_109 : decode cX4_job 109 = .ok (.putfield 75, 3) := by decide +kernel
theorem dX4_job_112 : decode cX4_job 112 = .ok (.aload_n 0, 1) := by decide +kernel
theorem dX4_job_113 : decode cX4_job 113 = .ok (.getfield 23, 3) := by decide +kernel
theorem dX4_job_116 : decode cX4_job 116 = .ok (.aload_n 0, 1) := by decide +kernel
theorem dX4_job_117 : decode cX4_job 117 = .ok (.getfield 64, 3) := by decide +kernel
theorem dX4_job_120 : decode cX4_job 120 = .ok (.aload 8, 2) := by decide +kernel
theorem dX4_job_122 : decode cX4_job 122 = .ok (.aastore, 1) := by decide +kernel
theorem dX4_job_123 : decode cX4_job 123 = .ok (.aload_n 0, 1) := by decide +kernel
theorem dX4_job_124 : decode cX4_job 124 = .ok (.dup, 1) := by decide +kernel
theorem dX4_job_125 : decode cX4_job 125 = .ok (.getfield 64, 3) := by decide +kernel
theorem dX4_job_128 : decode cX4_job 128 = .ok (.iconst 1, 1) := by decide +kernel
theorem dX4_job_129 : decode cX4_job 129 = .ok (.iadd, 1) := by decide +kernel
theorem dX4_job_130 : decode cX4_job 130 = .ok (.putfield 64, 3) := by decide +kernel
theorem dX4_job_133 : decode cX4_job 133 = .ok (.aload_n 0, 1) := by decide +kernel
theorem dX4_job_134 : decode cX4_job 134 = .ok (.getfield 64, 3) := by decide +kernel
theorem dX4_job_137 : decode cX4_job 137 = .ok (.ireturn, 1) := by decide +kernel
set_option maxRecDepth 20000 in
theorem ggX4_take_X4_findPrinter : GoodIn wsX4_take wsX4_findPrinter := goodIn_ca (goodIn_r _ [13, 14, 15, 16, 17, 18, 12, 19, 59, 60, 61, 62, 63, 64, 65, 66, 67, 68, 69] (by decide +kernel) (by decide +kernel)) (goodIn_sub (fun _ h => List.mem_cons_of_mem _ (List.mem_append_right _ h)) (by decide +kernel))
set_option maxRecDepth 20000 in
theorem gX4_take_X4_findPrinter : GoodIn wsX4_take (wsV RX4 79 RX4 yX4_findPrinter wsX4_findPrinter) := goodIn_app (goodIn_of _ (by decide +kernel)) ggX4_take_X4_findPrinter
set_option maxRecDepth 20000 in
theorem ggX4_take_X4_choosePart : GoodIn wsX4_take wsX4_choosePart := goodIn_r _ [23, 24, 25, 26, 5, 7, 27, 28, 12, 29, 30, 31, 32, 33, 34, 35, 36, 37, 38, 39, 40, 41, 42, 43, 44, 45, 46, 47, 48, 49, 50, 51, 52, 53, 59, 60, 61, 62, 63, 64, 65, 66, 67, 68, 69, 83, 84, 85, 86, 87, 88, 89, 90, 76, 77, 78, 79, 80, 81, 82, 70, 71, 72, 73, 74, 75, 91, 92, 93, 94, 95, 96] (by decide +kernel) (by decide +kernel)
set_option maxRecDepth 20000 in
theorem gX4_take_X4_choosePart : GoodIn wsX4_take (wsV RX4 93 RX4 yX4_choosePart wsX4_choosePart) := goodIn_app (goodIn_of _ (by decide +kernel)) ggX4_take_X4_choosePart
set_option maxRecDepth 20000 in
theorem ggX4_take_X4_bringTo : GoodIn wsX4_take wsX4_bringTo := goodIn_r _ [56, 7, 49, 50, 51, 52, 57, 31, 6, 58, 76, 77, 78, 79, 80, 81, 82, 83, 84, 85, 86, 87, 88, 89, 90, 91, 92, 93, 94, 95, 96, 70, 71, 72, 73, 74, 75] (by decide +kernel) (by decide +kernel)
set_option maxRecDepth 20000 in
theorem gX4_take_X4_bringTo : GoodIn wsX4_take (va_wsS RX4 97 yX4_bringTo wsX4_bringTo) := goodIn_app (goodIn_of _ (by decide +kernel)) ggX4_take_X4_bringTo
theorem dX4_take_0 : decode cX4_take 0 = .ok (.aload_n 0, 1) := by decide +kernel
theorem dX4_take_1 : decode cX4_take 1 = .ok (.iload_n 1, 1) := by decide +kernel
theorem dX4_take_2 : decode cX4_take 2 = .ok (.invokevirtual 79, 3) := by decide +kernel
theorem dX4_take_5 : decode cX4_take 5 = .ok (.astore 4, 2) := by decide +kernel
theorem dX4_take_7 : decode cX4_take 7 = .ok (.lload_n 2, 1) := by decide +kernel
theorem dX4_take_8 : decode cX4_take 8 = .ok (.aload_n 0, 1) := by decide +kernel
theorem dX4_take_9 : decode cX4_take 9 = .ok (.getfield 83, 3) := by decide +kernel
theorem dX4_take_12 : decode cX4_take 12 = .ok (.lcmp, 1) := by decide +kernel
theorem dX4_take_13 : decode cX4_take 13 = .ok (.ifCond .ge 11, 3) := by decide +kernel
theorem dX4_take_16 : decode cX4_take 16 = .ok (.new 42, 3) := by decide +kernel
theorem dX4_take_19 : decode cX4_take 19 = .ok (.dup, 1) := by decide +kernel
theorem dX4_take_20 : decode cX4_take 20 = .ok (.invokespecial 44, 3) := by decide +kernel
theorem dX4_take_23 : decode cX4_take 23 = .ok (.athrow, 1) := by decide +kernel
theorem dX4_take_24 : decode cX4_take 24 = .ok (.aload 4, 2) := by decide +kernel
theorem dX4_take_26 : decode cX4_take 26 = .ok (.getfield 87, 3) := by decide +kernel
theorem dX4_take_29 : decode cX4_take 29 = .ok (.ifnull 11, 3) := by decide +kernel
theorem dX4_take_32 : decode cX4_take 32 = .ok (.new 90, 3) := by decide +kernel
theorem dX4_take_35 : decode cX4_take 35 = .ok (.dup, 1) := by decide +kernel
theorem dX4_take_36 : decode cX4_take 36 = .ok (.invokespecial 92, 3) := by decide +kernel
theorem dX4_take_39 : decode cX4_take 39 = .ok (.athrow, 1) := by decide +kernel
theorem dX4_take_40 : decode cX4_take 40 = .ok (.aload_n 0, 1) := by decide +kernel
theorem dX4_take_41 : decode cX4_take 41 = .ok (.lload_n 2, 1) := by decide +kernel
theorem dX4_take_42 : decode cX4_take 42 = .ok (.putfield 83, 3) := by decide +kernel
theorem dX4_take_45 : decode cX4_take 45 = .ok (.aload_n 0, 1) := by decide +kernel
theorem dX4_take_46 : decode cX4_take 46 = .ok (.aload 4, 2) := by decide +kernel
theorem dX4_take_48 : decode cX4_take 48 = .ok (.invokevirtual 93, 3) := by decide +kernel
theorem dX4_take_51 : decode cX4_take 51 = .ok (.astore 5, 2) := by decide +kernel
theorem dX4_take_53 : decode cX4_take 53 = .ok (.aload 5, 2) := by decide +kernel
theorem dX4_take_55 : decode cX4_take 55 = .ok (.ifnonnull 5, 3) := by decide +kernel
theorem dX4_take_58 : decode cX4_take 58 = .ok (.iconst 0, 1) := by decide +kernel
theorem dX4_take_59 : decode cX4_take 59 = .ok (.ireturn, 1) := by decide +kernel
theorem dX4_take_60 : decode cX4_take 60 = .ok (.aload 4, 2) := by decide +kernel
theorem dX4_take_62 : decode cX4_take 62 = .ok (.aload 5, 2) := by decide +kernel
theorem dX4_take_64 : decode cX4_take 64 = .ok (.invokestatic 97, 3) := by decide +kernel
theorem dX4_take_67 : decode cX4_take 67 = .ok (.aload 5, 2) := by decide +kernel
theorem dX4_take_69 : decode cX4_take 69 = .ok (.getfield 101, 3) := by decide +kernel
theorem dX4_take_72 : decode cX4_take 72 = .ok (.getfield 105, 3) := by decide +kernel
theorem dX4_take_75 : decode cX4_take 75 = .ok (.ireturn, 1) := by decide +kernel
set_option maxRecDepth 20000 in
theorem ggX4_print_X4_findPrinter : GoodIn wsX4_print wsX4_findPrinter := goodIn_ca (goodIn_r _ [12, 13, 14, 15, 16, 17, 11, 18, 59, 60, 61, 62, 63, 64, 65, 66, 67, 68, 69] (by decide +kernel) (by decide +kernel)) (goodIn_sub (fun _ h => List.mem_cons_of_mem _ (List.mem_append_right _ h)) (by decide +kernel))
set_option maxRecDepth 20000 in
theorem gX4_print_X4_findPrinter : GoodIn wsX4_print (wsV RX4 79 RX4 yX4_findPrinter wsX4_findPrinter) := goodIn_app (goodIn_of _ (by decide +kernel)) ggX4_print_X4_findPrinter
set_option maxRecDepth 20000 in
theorem ggX4_print_X4_isWithin : GoodIn wsX4_print wsX4_isWithin := goodIn_r _ [18] (by decide +kernel) (by decide +kernel)
set_option maxRecDepth 20000 in
theorem gX4_print_X4_isWithin : GoodIn wsX4_print (va_wsS RX4 38 yX4_isWithin wsX4_isWithin) := goodIn_app (goodIn_of _ (by decide +kernel)) ggX4_print_X4_isWithin
set_option maxRecDepth 20000 in
theorem ggX4_print_X4_printInCopy : GoodIn wsX4_print wsX4_printInCopy := goodIn_r _ [21, 22, 23, 24, 25, 26, 27, 28, 29, 30, 31, 32, 33, 34, 35, 11, 36, 37, 38, 39, 40, 41, 42, 43, 44, 45, 52, 53, 54, 55, 56, 57, 58, 70, 71, 72, 73, 74, 75, 76, 77, 78, 79, 80, 81, 82, 83, 46, 47, 48, 49, 50, 51] (by decide +kernel) (by decide +kernel)
set_option maxRecDepth 20000 in
theorem gX4_print_X4_printInCopy : GoodIn wsX4_print (va_wsS RX4 115 yX4_printInCopy wsX4_printInCopy) := goodIn_app (goodIn_of _ (by decide +kernel)) ggX4_print_X4_printInCopy
theorem dX4_print_0 : decode cX4_print 0 = .ok (.aload_n 0, 1) := by decide +kernel
theorem dX4_print_1 : decode cX4_print 1 = .ok (.iload_n 1, 1) := by decide +kernel
theorem dX4_print_2 : decode cX4_print 2 = .ok (.invokevirtual 79, 3) := by decide +kernel
theorem dX4_print_5 : decode cX4_print 5 = .ok (.astore_n 3, 1) := by decide +kernel
theorem dX4_print_6 : decode cX4_print 6 = .ok (.iload_n 2, 1) := by decide +kernel
theorem dX4_print_7 : decode cX4_print 7 = .ok (.iconst 0, 1) := by decide +kernel
theorem dX4_print_8 : decode cX4_print 8 = .ok (.ldc 108, 2) := by decide +kernel
theorem dX4_print_10 : decode cX4_print 10 = .ok (.invokestatic 38, 3) := by decide +kernel
theorem dX4_print_13 : decode cX4_print 13 = .ok (.ifCond .ne 11, 3) := by decide +kernel
theorem dX4_print_16 : decode cX4_print 16 = .ok (.new 42, 3) := by decide +kernel
theorem dX4_print_19 : decode cX4_print 19 = .ok (.dup, 1) := by decide +kernel
theorem dX4_print_20 : decode cX4_print 20 = .ok (.invokespecial 44, 3) := by decide +kernel
theorem dX4_print_23 : decode cX4_print 23 = .ok (.athrow, 1) := by decide +kernel
theorem dX4_print_24 : decode cX4_print 24 = .ok (.aload_n 3, 1) := by decide +kernel
theorem dX4_print_25 : decode cX4_print 25 = .ok (.getfield 87, 3) := by decide +kernel
theorem dX4_print_28 : decode cX4_print 28 = .ok (.astore 4, 2) := by decide +kernel
theorem dX4_print_30 : decode cX4_print 30 = .ok (.aload 4, 2) := by decide +kernel
theorem dX4_print_32 : decode cX4_print 32 = .ok (.ifnonnull 5, 3) := by decide +kernel
theorem dX4_print_35 : decode cX4_print 35 = .ok (.iconst 0, 1) := by decide +kernel
theorem dX4_print_36 : decode cX4_print 36 = .ok (.ireturn, 1) := by decide +kernel
theorem dX4_print_37 : decode cX4_print 37 = .ok (.iconst 0, 1) := by decide +kernel
theorem dX4_print_38 : decode cX4_print 38 = .ok (.istore 5, 2) := by decide +kernel
theorem dX4_print_40 : decode cX4_print 40 = .ok (.iconst 0, 1) := by decide +kernel
theorem dX4_print_41 : decode cX4_print 41 = .ok (.istore 6, 2) := by decide +kernel
theorem dX4_print_43 : decode cX4_print 43 = .ok (.iload 6, 2) := by decide +kernel
theorem dX4_print_45 : decode cX4_print 45 = .ok (.bipush 100, 2) := by decide +kernel
theorem dX4_print_47 : decode cX4_print 47 = .ok (.if_icmp .ge 43, 3) := by decide +kernel
theorem dX4_print_50 : decode cX4_print 50 = .ok (.iload 5, 2) := by decide +kernel
theorem dX4_print_52 : decode cX4_print 52 = .ok (.iload_n 2, 1) := by decide +kernel
theorem dX4_print_53 : decode cX4_print 53 = .ok (.if_icmp .ge 37, 3) := by decide +kernel
theorem dX4_print_56 : decode cX4_print 56 = .ok (.aload 4, 2) := by decide +kernel
theorem dX4_print_58 : decode cX4_print 58 = .ok (.getfield 109, 3) := by decide +kernel
theorem dX4_print_61 : decode cX4_print 61 = .ok (.aload 4, 2) := by decide +kernel
theorem dX4_print_63 : decode cX4_print 63 = .ok (.getfield 112, 3) := by decide +kernel
theorem dX4_print_66 : decode cX4_print 66 = .ok (.if_icmp .ge 24, 3) := by decide +kernel
theorem dX4_print_69 : decode cX4_print 69 = .ok (.iload 5, 2) := by decide +kernel
theorem dX4_print_71 : decode cX4_print 71 = .ok (.aload_n 3, 1) := by decide +kernel
theorem dX4_print_72 : decode cX4_print 72 = .ok (.aload 4, 2) := by decide +kernel
theorem dX4_print_74 : decode cX4_print 74 = .ok (.iload_n 2, 1) := by decide +kernel
theorem dX4_print_75 : decode cX4_print 75 = .ok (.iload 5, 2) := by decide +kernel
theorem dX4_print_77 : decode cX4_print 77 = .ok (.isub, 1) := by decide +kernel
theorem dX4_print_78 : decode cX4_print 78 = .ok (.invokestatic 115, 3) := by decide +kernel
theorem dX4_print_81 : decode cX4_print 81 = .ok (.iadd, 1) := by decide +kernel
theorem dX4_print_82 : decode cX4_print 82 = .ok (.istore 5, 2) := by decide +kernel
theorem dX4_print_84 : decode cX4_print 84 = .ok (.iinc 6 1, 3) := by decide +kernel
theorem dX4_print_87 : decode cX4_print 87 = .ok (.goto (-44), 3) := by decide +kernel
theorem dX4_print_90 : decode cX4_print 90 = .ok (.aload 4, 2) := by decide +kernel
theorem dX4_print_92 : decode cX4_print 92 = .ok (.getfield 109, 3) := by decide +kernel
theorem dX4_print_95 : decode cX4_print 95 = .ok (.aload 4, 2) := by decide +kernel
theorem dX4_print_97 : decode cX4_print 97 = .ok (.getfield 112, 3) := by decide +kernel
theorem dX4_print_100 : decode cX4_print 100 = .ok (.if_icmp .lt 14, 3) := by decide +kernel
theorem dX4_print_103 : decode cX4_print 103 = .ok (.aload 4, 2) := by decide +kernel
theorem dX4_print_105 : decode cX4_print 105 = .ok (.iconst 2, 1) := by decide +kernel
theorem dX4_print_106 : decode cX4_print 106 = .ok (.putfield 119, 3) := by decide +kernel
theorem dX4_print_109 : decode cX4_print 109 = .ok (.aload_n 3, 1) := by decide +kernel
theorem dX4_print_110 : decode cX4_print 110 = .ok (.aconst_null, 1) := by decide +kernel
theorem dX4_print_111 : decode cX4_print 111 = .ok (.putfield 87, 3) := by decide +kernel
theorem dX4_print_114 : decode cX4_print 114 = .ok (.iload 5, 2) := by decide +kernel
theorem dX4_print_116 : decode cX4_print 116 = .ok (.ireturn, 1) := by decide +kernel
set_option maxRecDepth 20000 in
theorem ggX4_fault_X4_findPrinter : GoodIn wsX4_fault wsX4_findPrinter := goodIn_ca (goodIn_r _ [8, 9, 10, 11, 12, 13, 7, 14, 40, 41, 42, 43, 44, 45, 46, 47, 48, 49, 50] (by decide +kernel) (by decide +kernel)) (goodIn_sub (fun _ h => List.mem_cons_of_mem _ (List.mem_append_right _ h)) (by decide +kernel))
set_option maxRecDepth 20000 in
theorem gX4_fault_X4_findPrinter : GoodIn wsX4_fault (wsV RX4 79 RX4 yX4_findPrinter wsX4_findPrinter) := goodIn_app (goodIn_of _ (by decide +kernel)) ggX4_fault_X4_findPrinter
set_option maxRecDepth 20000 in
theorem ggX4_fault_X4_doubleLastPage : GoodIn wsX4_fault wsX4_doubleLastPage := goodIn_r _ [18, 19, 20, 21, 22, 23, 24, 3, 25, 26, 40, 41, 42, 43, 44, 45, 46, 47, 48, 49, 50, 33, 34, 35, 36, 37, 38, 39, 51, 52, 53, 54, 55, 56, 57, 58, 59, 60, 61, 62, 63, 64] (by decide +kernel) (by decide +kernel)
set_option maxRecDepth 20000 in
theorem gX4_fault_X4_doubleLastPage : GoodIn wsX4_fault (wsV RX4 125 RX4 yX4_doubleLastPage wsX4_doubleLastPage) := goodIn_app (goodIn_of _ (by decide +kernel)) ggX4_fault_X4_doubleLastPage
theorem dX4_fault_0 : decode cX4_fault 0 = .ok (.aload_n 0, 1) := by decide +kernel
theorem dX4_fault_1 : decode cX4_fault 1 = .ok (.iload_n 1, 1) := by decide +kernel
theorem dX4_fault_2 : decode cX4_fault 2 = .ok (.invokevirtual 79, 3) := by decide +kernel
theorem dX4_fault_5 : decode cX4_fault 5 = .ok (.astore_n 2, 1) := by decide +kernel
theorem dX4_fault_6 : decode cX4_fault 6 = .ok (.aload_n 2, 1) := by decide +kernel
theorem dX4_fault_7 : decode cX4_fault 7 = .ok (.getfield 87, 3) := by decide +kernel
theorem dX4_fault_10 : decode cX4_fault 10 = .ok (.astore_n 3, 1) := by decide +kernel
theorem dX4_fault_11 : decode cX4_fault 11 = .ok (.aload_n 3, 1) := by decide +kernel
theorem dX4_fault_12 : decode cX4_fault 12 = .ok (.ifnonnull 5, 3) := by decide +kernel
theorem dX4_fault_15 : decode cX4_fault 15 = .ok (.iconst 0, 1) := by decide +kernel
theorem dX4_fault_16 : decode cX4_fault 16 = .ok (.ireturn, 1) := by decide +kernel
theorem dX4_fault_17 : decode cX4_fault 17 = .ok (.aload_n 2, 1) := by decide +kernel
theorem dX4_fault_18 : decode cX4_fault 18 = .ok (.aconst_null, 1) := by decide +kernel
theorem dX4_fault_19 : decode cX4_fault 19 = .ok (.putfield 87, 3) := by decide +kernel
theorem dX4_fault_22 : decode cX4_fault 22 = .ok (.aload_n 3, 1) := by decide +kernel
theorem dX4_fault_23 : decode cX4_fault 23 = .ok (.iconst 0, 1) := by decide +kernel
theorem dX4_fault_24 : decode cX4_fault 24 = .ok (.putfield 119, 3) := by decide +kernel
theorem dX4_fault_27 : decode cX4_fault 27 = .ok (.aload_n 3, 1) := by decide +kernel
theorem dX4_fault_28 : decode cX4_fault 28 = .ok (.getfield 122, 3) := by decide +kernel
theorem dX4_fault_31 : decode cX4_fault 31 = .ok (.ifCond .le 8, 3) := by decide +kernel
theorem dX4_fault_34 : decode cX4_fault 34 = .ok (.aload_n 0, 1) := by decide +kernel
theorem dX4_fault_35 : decode cX4_fault 35 = .ok (.aload_n 3, 1) := by decide +kernel
theorem dX4_fault_36 : decode cX4_fault 36 = .ok (.invokevirtual 125, 3) := by decide +kernel
theorem dX4_fault_39 : decode cX4_fault 39 = .ok (.aload_n 3, 1) := by decide +kernel
theorem dX4_fault_40 : decode cX4_fault 40 = .ok (.getfield 122, 3) := by decide +kernel
theorem dX4_fault_43 : decode cX4_fault 43 = .ok (.iconst 1, 1) := by decide +kernel
theorem dX4_fault_44 : decode cX4_fault 44 = .ok (.iadd, 1) := by decide +kernel
theorem dX4_fault_45 : decode cX4_fault 45 = .ok (.ireturn, 1) := by decide +kernel
set_option maxRecDepth 20000 in
theorem ggX4_hold_X4_findJob : GoodIn wsX4_hold wsX4_findJob := goodIn_ca (goodIn_r _ [6, 7, 8, 9, 10, 11, 5, 12, 24, 25, 26, 27, 28, 29, 30, 31, 32, 33, 34] (by decide +kernel) (by decide +kernel)) (goodIn_sub (fun _ h => List.mem_cons_of_mem _ (List.mem_append_right _ h)) (by decide +kernel))
set_option maxRecDepth 20000 in
theorem gX4_hold_X4_findJob : GoodIn wsX4_hold (wsV RX4 129 RX4 yX4_findJob wsX4_findJob) := goodIn_app (goodIn_of _ (by decide +kernel)) ggX4_hold_X4_findJob
set_option maxRecDepth 20000 in
theorem ggX4_hold_X4_asNumber : GoodIn wsX4_hold wsX4_asNumber := goodIn_r _ [15] (by decide +kernel) (by decide +kernel)
set_option maxRecDepth 20000 in
theorem gX4_hold_X4_asNumber : GoodIn wsX4_hold (va_wsS RX4 137 yX4_asNumber wsX4_asNumber) := goodIn_app (goodIn_of _ (by decide +kernel)) ggX4_hold_X4_asNumber
theorem dX4_hold_0 : decode cX4_hold 0 = .ok (.aload_n 0, 1) := by decide +kernel
theorem dX4_hold_1 : decode cX4_hold 1 = .ok (.iload_n 1, 1) := by decide +kernel
theorem dX4_hold_2 : decode cX4_hold 2 = .ok (.invokevirtual 129, 3) := by decide +kernel
theorem dX4_hold_5 : decode cX4_hold 5 = .ok (.astore_n 3, 1) := by decide +kernel
theorem dX4_hold_6 : decode cX4_hold 6 = .ok (.aload_n 3, 1) := by decide +kernel
theorem dX4_hold_7 : decode cX4_hold 7 = .ok (.getfield 133, 3) := by decide +kernel
theorem dX4_hold_10 : decode cX4_hold 10 = .ok (.invokestatic 137, 3) := by decide +kernel
theorem dX4_hold_13 : decode cX4_hold 13 = .ok (.istore 4, 2) := by decide +kernel
theorem dX4_hold_15 : decode cX4_hold 15 = .ok (.aload_n 3, 1) := by decide +kernel
theorem dX4_hold_16 : decode cX4_hold 16 = .ok (.iload_n 2, 1) := by decide +kernel
theorem dX4_hold_17 : decode cX4_hold 17 = .ok (.putfield 133, 3) := by decide +kernel
theorem dX4_hold_20 : decode cX4_hold 20 = .ok (.iload 4, 2) := by decide +kernel
theorem dX4_hold_22 : decode cX4_hold 22 = .ok (.ireturn, 1) := by decide +kernel
set_option maxRecDepth 20000 in
theorem ggX4_cancel_X4_findJob : GoodIn wsX4_cancel wsX4_findJob := goodIn_ca (goodIn_r _ [9, 10, 11, 12, 13, 14, 8, 15, 38, 39, 40, 41, 42, 43, 44, 45, 46, 47, 48] (by decide +kernel) (by decide +kernel)) (goodIn_sub (fun _ h => List.mem_cons_of_mem _ (List.mem_append_right _ h)) (by decide +kernel))
set_option maxRecDepth 20000 in
theorem gX4_cancel_X4_findJob : GoodIn wsX4_cancel (wsV RX4 129 RX4 yX4_findJob wsX4_findJob) := goodIn_app (goodIn_of _ (by decide +kernel)) ggX4_cancel_X4_findJob
set_option maxRecDepth 20000 in
theorem ggX4_cancel_X4_emptyPrintersOf : GoodIn wsX4_cancel wsX4_emptyPrintersOf := goodIn_r _ [19, 20, 21, 22, 38, 39, 40, 41, 42, 43, 44, 45, 46, 47, 48, 49, 50, 51, 52, 53, 54, 31, 32, 33, 34, 35, 36, 37] (by decide +kernel) (by decide +kernel)
set_option maxRecDepth 20000 in
theorem gX4_cancel_X4_emptyPrintersOf : GoodIn wsX4_cancel (wsV RX4 147 RX4 yX4_emptyPrintersOf wsX4_emptyPrintersOf) := goodIn_app (goodIn_of _ (by decide +kernel)) ggX4_cancel_X4_emptyPrintersOf
theorem dX4_cancel_0 : decode cX4_cancel 0 = .ok (.aload_n 0, 1) := by decide +kernel
theorem dX4_cancel_1 : decode cX4_cancel 1 = .ok (.iload_n 1, 1) := by decide +kernel
theorem dX4_cancel_2 : decode cX4_cancel 2 = .ok (.invokevirtual 129, 3) := by decide +kernel
theorem dX4_cancel_5 : decode cX4_cancel 5 = .ok (.astore_n 2, 1) := by decide +kernel
theorem dX4_cancel_6 : decode cX4_cancel 6 = .ok (.iconst 0, 1) := by decide +kernel
theorem dX4_cancel_7 : decode cX4_cancel 7 = .ok (.istore_n 3, 1) := by decide +kernel
theorem dX4_cancel_8 : decode cX4_cancel 8 = .ok (.aload_n 2, 1) := by decide +kernel
theorem dX4_cancel_9 : decode cX4_cancel 9 = .ok (.getfield 75, 3) := by decide +kernel
theorem dX4_cancel_12 : decode cX4_cancel 12 = .ok (.astore 4, 2) := by decide +kernel
theorem dX4_cancel_14 : decode cX4_cancel 14 = .ok (.aload 4, 2) := by decide +kernel
theorem dX4_cancel_16 : decode cX4_cancel 16 = .ok (.ifnull 31, 3) := by decide +kernel
theorem dX4_cancel_19 : decode cX4_cancel 19 = .ok (.aload 4, 2) := by decide +kernel
theorem dX4_cancel_21 : decode cX4_cancel 21 = .ok (.getfield 119, 3) := by decide +kernel
theorem dX4_cancel_24 : decode cX4_cancel 24 = .ok (.iconst 2, 1) := by decide +kernel
theorem dX4_cancel_25 : decode cX4_cancel 25 = .ok (.if_icmp .eq 12, 3) := by decide +kernel
theorem dX4_cancel_28 : decode cX4_cancel 28 = .ok (.aload 4, 2) := by decide +kernel
theorem dX4_cancel_30 : decode cX4_cancel 30 = .ok (.iconst 2, 1) := by decide +kernel
theorem dX4_cancel_31 : decode cX4_cancel 31 = .ok (.putfield 119, 3) := by decide +kernel
theorem dX4_cancel_34 : decode cX4_cancel 34 = .ok (.iinc 3 1, 3) := by decide +kernel
theorem dX4_cancel_37 : decode cX4_cancel 37 = .ok (.aload 4, 2) := by decide +kernel
theorem dX4_cancel_39 : decode cX4_cancel 39 = .ok (.getfield 141, 3) := by decide +kernel
theorem dX4_cancel_42 : decode cX4_cancel 42 = .ok (.astore 4, 2) := by decide +kernel
theorem dX4_cancel_44 : decode cX4_cancel 44 = .ok (.goto (-30), 3) := by decide +kernel
theorem dX4_cancel_47 : decode cX4_cancel 47 = .ok (.iload_n 3, 1) := by decide +kernel
theorem dX4_cancel_48 : decode cX4_cancel 48 = .ok (.ifCond .le 13, 3) := by decide +kernel
theorem dX4_cancel_51 : decode cX4_cancel 51 = .ok (.aload_n 2, 1) := by decide +kernel
theorem dX4_cancel_52 : decode cX4_cancel 52 = .ok (.iconst 1, 1) := by decide +kernel
theorem dX4_cancel_53 : decode cX4_cancel 53 = .ok (.putfield 144, 3) := by decide +kernel
theorem dX4_cancel_56 : decode cX4_cancel 56 = .ok (.aload_n 0, 1) := by decide +kernel
theorem dX4_cancel_57 : decode cX4_cancel 57 = .ok (.aload_n 2, 1) := by decide +kernel
theorem dX4_cancel_58 : decode cX4_cancel 58 = .ok (.invokevirtual 147, 3) := by decide +kernel
theorem dX4_cancel_61 : decode cX4_cancel 61 = .ok (.iload_n 3, 1) := by decide +kernel
theorem dX4_cancel_62 : decode cX4_cancel 62 = .ok (.ireturn, 1) := by decide +kernel
set_option maxRecDepth 20000 in
theorem ggX4_state_X4_findJob : GoodIn wsX4_state wsX4_findJob := goodIn_ca (goodIn_r _ [8, 9, 10, 11, 12, 13, 7, 14, 54, 55, 56, 57, 58, 59, 60, 61, 62, 63, 64] (by decide +kernel) (by decide +kernel)) (goodIn_sub (fun _ h => List.mem_cons_of_mem _ (List.mem_append_right _ h)) (by decide +kernel))
set_option maxRecDepth 20000 in
theorem gX4_state_X4_findJob : GoodIn wsX4_state (wsV RX4 129 RX4 yX4_findJob wsX4_findJob) := goodIn_app (goodIn_of _ (by decide +kernel)) ggX4_state_X4_findJob
set_option maxRecDepth 20000 in
theorem ggX4_state_X0_condition : GoodIn wsX4_state wsX0_condition := goodIn_r _ [19, 20, 21, 22, 23, 18, 24, 25, 26, 27, 46, 47, 48, 49, 50, 51, 52, 53, 65, 66, 67, 68, 69, 70, 71] (by decide +kernel) (by decide +kernel)
set_option maxRecDepth 20000 in
theorem gX4_state_X0_condition : GoodIn wsX4_state (wsV RX4 151 RX0 yX0_condition wsX0_condition) := goodIn_app (goodIn_of _ (by decide +kernel)) ggX4_state_X0_condition
set_option maxRecDepth 20000 in
theorem ggX4_state_X0_pagesThatCount : GoodIn wsX4_state wsX0_pagesThatCount := goodIn_r _ [31, 25, 32, 33, 34, 27, 46, 47, 48, 49, 50, 51, 52, 53, 65, 66, 67, 68, 69, 70, 71] (by decide +kernel) (by decide +kernel)
set_option maxRecDepth 20000 in
theorem gX4_state_X0_pagesThatCount : GoodIn wsX4_state (wsV RX4 155 RX0 yX0_pagesThatCount wsX0_pagesThatCount) := goodIn_app (goodIn_of _ (by decide +kernel)) ggX4_state_X0_pagesThatCount
set_option maxRecDepth 20000 in
theorem ggX4_state_X0_wholeCopies : GoodIn wsX4_state wsX0_wholeCopies := goodIn_r _ [38, 25, 32, 27, 46, 47, 48, 49, 50, 51, 52, 53, 65, 66, 67, 68, 69, 70, 71] (by decide +kernel) (by decide +kernel)
set_option maxRecDepth 20000 in
theorem gX4_state_X0_wholeCopies : GoodIn wsX4_state (wsV RX4 158 RX0 yX0_wholeCopies wsX0_wholeCopies) := goodIn_app (goodIn_of _ (by decide +kernel)) ggX4_state_X0_wholeCopies
set_option maxRecDepth 20000 in
theorem ggX4_state_X0_partsHad : GoodIn wsX4_state wsX0_partsHad := goodIn_r _ [42, 25, 27, 46, 47, 48, 49, 50, 51, 52, 53, 65, 66, 67, 68, 69, 70, 71] (by decide +kernel) (by decide +kernel)
set_option maxRecDepth 20000 in
theorem gX4_state_X0_partsHad : GoodIn wsX4_state (wsV RX4 160 RX0 yX0_partsHad wsX0_partsHad) := goodIn_app (goodIn_of _ (by decide +kernel)) ggX4_state_X0_partsHad
set_option maxRecDepth 20000 in
theorem ggX4_state_X4_asNumber : GoodIn wsX4_state wsX4_asNumber := goodIn_r _ [45] (by decide +kernel) (by decide +kernel)
set_option maxRecDepth 20000 in
theorem gX4_state_X4_asNumber : GoodIn wsX4_state (va_wsS RX4 137 yX4_asNumber wsX4_asNumber) := goodIn_app (goodIn_of _ (by decide +kernel)) ggX4_state_X4_asNumber
theorem dX4_state_0 : decode cX4_state 0 = .ok (.aload_n 0, 1) := by decide +kernel
theorem dX4_state_1 : decode cX4_state 1 = .ok (.iload_n 1, 1) := by decide +kernel
theorem dX4_state_2 : decode cX4_state 2 = .ok (.invokevirtual 129, 3) := by decide +kernel
theorem dX4_state_5 : decode cX4_state 5 = .ok (.astore_n 3, 1) := by decide +kernel
theorem dX4_state_6 : decode cX4_state 6 = .ok (.iload_n 2, 1) := by decide +kernel
theorem dX4_state_7 : decode cX4_state 7 = .ok (.tableswitch 61 0 4 #[33, 38, 43, 48, 53], 33) := by decide +kernel
theorem dX4_state_40 : decode cX4_state 40 = .ok (.aload_n 3, 1) := by decide +kernel
theorem dX4_state_41 : decode cX4_state 41 = .ok (.invokevirtual 151, 3) := by decide +kernel
theorem dX4_state_44 : decode cX4_state 44 = .ok (.ireturn, 1) := by decide +kernel
theorem dX4_state_45 : decode cX4_state 45 = .ok (.aload_n 3, 1) := by decide +kernel
theorem dX4_state_46 : decode cX4_state 46 = .ok (.invokevirtual 155, 3) := by decide +kernel
theorem dX4_state_49 : decode cX4_state 49 = .ok (.ireturn, 1) := by decide +kernel
theorem dX4_state_50 : decode cX4_state 50 = .ok (.aload_n 3, 1) := by decide +kernel
theorem dX4_state_51 : decode cX4_state 51 = .ok (.invokevirtual 158, 3) := by decide +kernel
theorem dX4_state_54 : decode cX4_state 54 = .ok (.ireturn, 1) := by decide +kernel
theorem dX4_state_55 : decode cX4_state 55 = .ok (.aload_n 3, 1) := by decide +kernel
theorem dX4_state_56 : decode cX4_state 56 = .ok (.invokevirtual 160, 3) := by decide +kernel
theorem dX4_state_59 : decode cX4_state 59 = .ok (.ireturn, 1) := by decide +kernel
theorem dX4_state_60 : decode cX4_state 60 = .ok (.aload_n 3, 1) := by decide +kernel
theorem dX4_state_61 : decode cX4_state 61 = .ok (.getfield 133, 3) := by decide +kernel
theorem dX4_state_64 : decode cX4_state 64 = .ok (.invokestatic 137, 3) := by decide +kernel
theorem dX4_state_67 : decode cX4_state 67 = .ok (.ireturn, 1) := by decide +kernel
theorem dX4_state_68 : decode cX4_state 68 = .ok (.new 163, 3) := by decide +kernel
theorem dX4_state_71 : decode cX4_state 71 = .ok (.dup, 1) := by decide +kernel
theorem dX4_state_72 : decode cX4_state 72 = .ok (.invokespecial 165, 3) := by decide +kernel
theorem dX4_state_75 : decode cX4_state 75 = .ok (.athrow, 1) := by decide +kernel
set_option maxRecDepth 20000 in
theorem ggX4_doubled_X4_findJob : GoodIn wsX4_doubled wsX4_findJob := goodIn_ca (goodIn_r _ [11, 12, 13, 14, 15, 16, 10, 17, 18, 19, 20, 21, 22, 23, 24, 25, 26, 27, 28] (by decide +kernel) (by decide +kernel)) (goodIn_sub (fun _ h => List.mem_cons_of_mem _ (List.mem_append_right _ h)) (by decide +kernel))
set_option maxRecDepth 20000 in
theorem gX4_doubled_X4_findJob : GoodIn wsX4_doubled (wsV RX4 129 RX4 yX4_findJob wsX4_findJob) := goodIn_app (goodIn_of _ (by decide +kernel)) ggX4_doubled_X4_findJob
theorem dX4_doubled_0 : decode cX4_doubled 0 = .ok (.aload_n 0, 1) := by decide +kernel
theorem dX4_doubled_1 : decode cX4_doubled 1 = .ok (.iload_n 1, 1) := by decide +kernel
theorem dX4_doubled_2 : decode cX4_doubled 2 = .ok (.invokevirtual 129, 3) := by decide +kernel
theorem dX4_doubled_5 : decode cX4_doubled 5 = .ok (.astore_n 3, 1) := by decide +kernel
theorem dX4_doubled_6 : decode cX4_doubled 6 = .ok (.iconst 0, 1) := by decide +kernel
theorem dX4_doubled_7 : decode cX4_doubled 7 = .ok (.istore 4, 2) := by decide +kernel
theorem dX4_doubled_9 : decode cX4_doubled 9 = .ok (.iconst 0, 1) := by decide +kernel
theorem dX4_doubled_10 : decode cX4_doubled 10 = .ok (.istore 5, 2) := by decide +kernel
theorem dX4_doubled_12 : decode cX4_doubled 12 = .ok (.iload 5, 2) := by decide +kernel
theorem dX4_doubled_14 : decode cX4_doubled 14 = .ok (.aload_n 0, 1) := by decide +kernel
theorem dX4_doubled_15 : decode cX4_doubled 15 = .ok (.getfield 166, 3) := by decide +kernel
theorem dX4_doubled_18 : decode cX4_doubled 18 = .ok (.if_icmp .ge 48, 3) := by decide +kernel
theorem dX4_doubled_21 : decode cX4_doubled 21 = .ok (.iload 5, 2) := by decide +kernel
theorem dX4_doubled_23 : decode cX4_doubled 23 = .ok (.sipush 256, 3) := by decide +kernel
theorem dX4_doubled_26 : decode cX4_doubled 26 = .ok (.if_icmp .ge 40, 3) := by decide +kernel
theorem dX4_doubled_29 : decode cX4_doubled 29 = .ok (.aload_n 0, 1) := by decide +kernel
theorem dX4_doubled_30 : decode cX4_doubled 30 = .ok (.getfield 27, 3) := by decide +kernel
theorem dX4_doubled_33 : decode cX4_doubled 33 = .ok (.iload 5, 2) := by decide +kernel
theorem dX4_doubled_35 : decode cX4_doubled 35 = .ok (.iaload, 1) := by decide +kernel
theorem dX4_doubled_36 : decode cX4_doubled 36 = .ok (.aload_n 3, 1) := by decide +kernel
theorem dX4_doubled_37 : decode cX4_doubled 37 = .ok (.getfield 105, 3) := by decide +kernel
theorem dX4_doubled_40 : decode cX4_doubled 40 = .ok (.if_icmp .ne 20, 3) := by decide +kernel
theorem dX4_doubled_43 : decode cX4_doubled 43 = .ok (.iload 4, 2) := by decide +kernel
theorem dX4_doubled_45 : decode cX4_doubled 45 = .ok (.iload_n 2, 1) := by decide +kernel
theorem dX4_doubled_46 : decode cX4_doubled 46 = .ok (.if_icmp .ne 11, 3) := by decide +kernel
theorem dX4_doubled_49 : decode cX4_doubled 49 = .ok (.aload_n 0, 1) := by decide +kernel
theorem dX4_doubled_50 : decode cX4_doubled 50 = .ok (.getfield 31, 3) := by decide +kernel
theorem dX4_doubled_53 : decode cX4_doubled 53 = .ok (.iload 5, 2) := by decide +kernel
theorem dX4_doubled_55 : decode cX4_doubled 55 = .ok (.iaload, 1) := by decide +kernel
theorem dX4_doubled_56 : decode cX4_doubled 56 = .ok (.ireturn, 1) := by decide +kernel
theorem dX4_doubled_57 : decode cX4_doubled 57 = .ok (.iinc 4 1, 3) := by decide +kernel
theorem dX4_doubled_60 : decode cX4_doubled 60 = .ok (.iinc 5 1, 3) := by decide +kernel
theorem dX4_doubled_63 : decode cX4_doubled 63 = .ok (.goto (-51), 3) := by decide +kernel
theorem dX4_doubled_66 : decode cX4_doubled 66 = .ok (.iload_n 2, 1) := by decide +kernel
theorem dX4_doubled_67 : decode cX4_doubled 67 = .ok (.iconst (-1), 1) := by decide +kernel
theorem dX4_doubled_68 : decode cX4_doubled 68 = .ok (.if_icmp .eq 11, 3) := by decide +kernel
theorem dX4_doubled_71 : decode cX4_doubled 71 = .ok (.new 163, 3) := by decide +kernel
theorem dX4_doubled_74 : decode cX4_doubled 74 = .ok (.dup, 1) := by decide +kernel
theorem dX4_doubled_75 : decode cX4_doubled 75 = .ok (.invokespecial 165, 3) := by decide +kernel
theorem dX4_doubled_78 : decode cX4_doubled 78 = .ok (.athrow, 1) := by decide +kernel
theorem dX4_doubled_79 : decode cX4_doubled 79 = .ok (.iload 4, 2) := by decide +kernel
theorem dX4_doubled_81 : decode cX4_doubled 81 = .ok (.ireturn, 1) := by decide +kernel
set_option maxRecDepth 20000 in
theorem ggX4_account_X4_findTicket : GoodIn wsX4_account wsX4_findTicket := goodIn_ca (goodIn_r _ [11, 12, 13, 14, 15, 16, 10, 17, 24, 25, 26, 27, 28, 29, 30, 31, 32, 33, 34] (by decide +kernel) (by decide +kernel)) (goodIn_sub (fun _ h => List.mem_cons_of_mem _ (List.mem_append_right _ h)) (by decide +kernel))
set_option maxRecDepth 20000 in
theorem gX4_account_X4_findTicket : GoodIn wsX4_account (wsV RX4 60 RX4 yX4_findTicket wsX4_findTicket) := goodIn_app (goodIn_of _ (by decide +kernel)) ggX4_account_X4_findTicket
theorem dX4_account_0 : decode cX4_account 0 = .ok (.aload_n 0, 1) := by decide +kernel
theorem dX4_account_1 : decode cX4_account 1 = .ok (.iload_n 1, 1) := by decide +kernel
theorem dX4_account_2 : decode cX4_account 2 = .ok (.invokevirtual 60, 3) := by decide +kernel
theorem dX4_account_5 : decode cX4_account 5 = .ok (.astore_n 3, 1) := by decide +kernel
theorem dX4_account_6 : decode cX4_account 6 = .ok (.iload_n 2, 1) := by decide +kernel
theorem dX4_account_7 : decode cX4_account 7 = .ok (.tableswitch 49 0 3 #[29, 34, 39, 44], 29) := by decide +kernel
theorem dX4_account_36 : decode cX4_account 36 = .ok (.aload_n 3, 1) := by decide +kernel
theorem dX4_account_37 : decode cX4_account 37 = .ok (.getfield 169, 3) := by decide +kernel
theorem dX4_account_40 : decode cX4_account 40 = .ok (.lreturn, 1) := by decide +kernel
theorem dX4_account_41 : decode cX4_account 41 = .ok (.aload_n 3, 1) := by decide +kernel
theorem dX4_account_42 : decode cX4_account 42 = .ok (.getfield 172, 3) := by decide +kernel
theorem dX4_account_45 : decode cX4_account 45 = .ok (.lreturn, 1) := by decide +kernel
theorem dX4_account_46 : decode cX4_account 46 = .ok (.aload_n 3, 1) := by decide +kernel
theorem dX4_account_47 : decode cX4_account 47 = .ok (.getfield 175, 3) := by decide +kernel
theorem dX4_account_50 : decode cX4_account 50 = .ok (.lreturn, 1) := by decide +kernel
theorem dX4_account_51 : decode cX4_account 51 = .ok (.aload_n 3, 1) := by decide +kernel
theorem dX4_account_52 : decode cX4_account 52 = .ok (.getfield 178, 3) := by decide +kernel
theorem dX4_account_55 : decode cX4_account 55 = .ok (.lreturn, 1) := by decide +kernel
theorem dX4_account_56 : decode cX4_account 56 = .ok (.new 163, 3) := by decide +kernel
theorem dX4_account_59 : decode cX4_account 59 = .ok (.dup, 1) := by decide +kernel
theorem dX4_account_60 : decode cX4_account 60 = .ok (.invokespecial 165, 3) := by decide +kernel
theorem dX4_account_63 : decode cX4_account 63 = .ok (.athrow, 1) := by decide +kernel
set_option maxRecDepth 20000 in
theorem ggX4_reason_X4_findJob : GoodIn wsX4_reason wsX4_findJob := goodIn_ca (goodIn_r _ [8, 9, 10, 11, 12, 13, 7, 14, 54, 55, 56, 57, 58, 59, 60, 61, 62, 63, 64] (by decide +kernel) (by decide +kernel)) (goodIn_sub (fun _ h => List.mem_cons_of_mem _ (List.mem_append_right _ h)) (by decide +kernel))
set_option maxRecDepth 20000 in
theorem gX4_reason_X4_findJob : GoodIn wsX4_reason (wsV RX4 129 RX4 yX4_findJob wsX4_findJob) := goodIn_app (goodIn_of _ (by decide +kernel)) ggX4_reason_X4_findJob
set_option maxRecDepth 20000 in
theorem ggX4_reason_X0_hasPartThat : GoodIn wsX4_reason wsX0_hasPartThat := goodIn_r _ [19, 20, 21, 22, 46, 47, 48, 49, 50, 51, 52, 53, 65, 66, 67, 68, 69, 70, 71] (by decide +kernel) (by decide +kernel)
set_option maxRecDepth 20000 in
theorem gX4_reason_X0_hasPartThat : GoodIn wsX4_reason (wsV RX4 181 RX0 yX0_hasPartThat wsX0_hasPartThat) := goodIn_app (goodIn_of _ (by decide +kernel)) ggX4_reason_X0_hasPartThat
set_option maxRecDepth 20000 in
theorem ggX4_reason_X4_reasonByPrinters : GoodIn wsX4_reason wsX4_reasonByPrinters := goodIn_r _ [26, 27, 28, 29, 30, 7, 31, 32, 33, 34, 35, 36, 37, 38, 39, 40, 41, 42, 43, 44, 45, 54, 55, 56, 57, 58, 59, 60, 61, 62, 63, 64, 72, 73, 74, 75, 76, 77, 46, 47, 48, 49, 50, 51, 52, 53, 65, 66, 67, 68, 69, 70, 71, 78, 79, 80, 81, 82, 83] (by decide +kernel) (by decide +kernel)
set_option maxRecDepth 20000 in
theorem gX4_reason_X4_reasonByPrinters : GoodIn wsX4_reason (wsV RX4 188 RX4 yX4_reasonByPrinters wsX4_reasonByPrinters) := goodIn_app (goodIn_of _ (by decide +kernel)) ggX4_reason_X4_reasonByPrinters
theorem dX4_reason_0 : decode cX4_reason 0 = .ok (.aload_n 0, 1) := by decide +kernel
theorem dX4_reason_1 : decode cX4_reason 1 = .ok (.iload_n 1, 1) := by decide +kernel
theorem dX4_reason_2 : decode cX4_reason 2 = .ok (.invokevirtual 129, 3) := by decide +kernel
theorem dX4_reason_5 : decode cX4_reason 5 = .ok (.astore_n 2, 1) := by decide +kernel
theorem dX4_reason_6 : decode cX4_reason 6 = .ok (.aload_n 2, 1) := by decide +kernel
theorem dX4_reason_7 : decode cX4_reason 7 = .ok (.iconst 0, 1) := by decide +kernel
theorem dX4_reason_8 : decode cX4_reason 8 = .ok (.invokevirtual 181, 3) := by decide +kernel
theorem dX4_reason_11 : decode cX4_reason 11 = .ok (.ifCond .ne 5, 3) := by decide +kernel
theorem dX4_reason_14 : decode cX4_reason 14 = .ok (.iconst 0, 1) := by decide +kernel
theorem dX4_reason_15 : decode cX4_reason 15 = .ok (.ireturn, 1) := by decide +kernel
theorem dX4_reason_16 : decode cX4_reason 16 = .ok (.aload_n 2, 1) := by decide +kernel
theorem dX4_reason_17 : decode cX4_reason 17 = .ok (.getfield 133, 3) := by decide +kernel
theorem dX4_reason_20 : decode cX4_reason 20 = .ok (.ifCond .eq 5, 3) := by decide +kernel
theorem dX4_reason_23 : decode cX4_reason 23 = .ok (.iconst 1, 1) := by decide +kernel
theorem dX4_reason_24 : decode cX4_reason 24 = .ok (.ireturn, 1) := by decide +kernel
theorem dX4_reason_25 : decode cX4_reason 25 = .ok (.aload_n 2, 1) := by decide +kernel
theorem dX4_reason_26 : decode cX4_reason 26 = .ok (.getfield 185, 3) := by decide +kernel
theorem dX4_reason_29 : decode cX4_reason 29 = .ok (.aload_n 0, 1) := by decide +kernel
theorem dX4_reason_30 : decode cX4_reason 30 = .ok (.getfield 83, 3) := by decide +kernel
theorem dX4_reason_33 : decode cX4_reason 33 = .ok (.lcmp, 1) := by decide +kernel
theorem dX4_reason_34 : decode cX4_reason 34 = .ok (.ifCond .le 5, 3) := by decide +kernel
theorem dX4_reason_37 : decode cX4_reason 37 = .ok (.iconst 2, 1) := by decide +kernel
theorem dX4_reason_38 : decode cX4_reason 38 = .ok (.ireturn, 1) := by decide +kernel
theorem dX4_reason_39 : decode cX4_reason 39 = .ok (.aload_n 0, 1) := by decide +kernel
theorem dX4_reason_40 : decode cX4_reason 40 = .ok (.aload_n 2, 1) := by decide +kernel
theorem dX4_reason_41 : decode cX4_reason 41 = .ok (.invokevirtual 188, 3) := by decide +kernel
theorem dX4_reason_44 : decode cX4_reason 44 = .ok (.ireturn, 1) := by decide +kernel
set_option maxRecDepth 20000 in
theorem ggX4_split_X4_findJob : GoodIn wsX4_split wsX4_findJob := goodIn_ca (goodIn_r _ [12, 13, 14, 15, 16, 17, 11, 18, 65, 66, 67, 68, 69, 70, 71, 72, 73, 74, 75] (by decide +kernel) (by decide +kernel)) (goodIn_sub (fun _ h => List.mem_cons_of_mem _ (List.mem_append_right _ h)) (by decide +kernel))
set_option maxRecDepth 20000 in
theorem gX4_split_X4_findJob : GoodIn wsX4_split (wsV RX4 129 RX4 yX4_findJob wsX4_findJob) := goodIn_app (goodIn_of _ (by decide +kernel)) ggX4_split_X4_findJob
set_option maxRecDepth 20000 in
theorem ggX4_split_X4_findPrinter : GoodIn wsX4_split wsX4_findPrinter := goodIn_ca (goodIn_r _ [22, 13, 14, 23, 16, 17, 11, 18, 65, 66, 67, 68, 69, 70, 71, 72, 73, 74, 75] (by decide +kernel) (by decide +kernel)) (goodIn_sub (fun _ h => List.mem_cons_of_mem _ (List.mem_append_right _ h)) (by decide +kernel))
set_option maxRecDepth 20000 in
theorem gX4_split_X4_findPrinter : GoodIn wsX4_split (wsV RX4 79 RX4 yX4_findPrinter wsX4_findPrinter) := goodIn_app (goodIn_of _ (by decide +kernel)) ggX4_split_X4_findPrinter
set_option maxRecDepth 20000 in
theorem ggX4_split_X4_canLose : GoodIn wsX4_split wsX4_canLose := goodIn_r _ [26, 27, 28, 29, 30, 31, 6, 32, 33, 34, 35, 52, 53, 54, 55, 56, 57, 58] (by decide +kernel) (by decide +kernel)
set_option maxRecDepth 20000 in
theorem gX4_split_X4_canLose : GoodIn wsX4_split (va_wsS RX4 192 yX4_canLose wsX4_canLose) := goodIn_app (goodIn_of _ (by decide +kernel)) ggX4_split_X4_canLose
set_option maxRecDepth 20000 in
theorem ggX4_split_X1_init : GoodIn wsX4_split wsX1_init := goodIn_r _ [38, 39, 40, 41, 42, 43, 33, 52, 53, 54, 55, 56, 57, 58] (by decide +kernel) (by decide +kernel)
set_option maxRecDepth 20000 in
theorem gX4_split_X1_init : GoodIn wsX4_split (wsX1_init) := ggX4_split_X1_init
theorem dX4_split_0 : decode cX4_split 0 = .ok (.aload_n 0, 1) := by decide +kernel
theorem dX4_split_1 : decode cX4_split 1 = .ok (.iload_n 1, 1) := by decide +kernel
theorem dX4_split_2 : decode cX4_split 2 = .ok (.invokevirtual 129, 3) := by decide +kernel
theorem dX4_split_5 : decode cX4_split 5 = .ok (.astore 4, 2) := by decide +kernel
theorem dX4_split_7 : decode cX4_split 7 = .ok (.aload_n 0, 1) := by decide +kernel
theorem dX4_split_8 : decode cX4_split 8 = .ok (.iload_n 2, 1) := by decide +kernel
theorem dX4_split_9 : decode cX4_split 9 = .ok (.invokevirtual 79, 3) := by decide +kernel
theorem dX4_split_12 : decode cX4_split 12 = .ok (.astore 5, 2) := by decide +kernel
theorem dX4_split_14 : decode cX4_split 14 = .ok (.iload_n 3, 1) := by decide +kernel
theorem dX4_split_15 : decode cX4_split 15 = .ok (.iconst 1, 1) := by decide +kernel
theorem dX4_split_16 : decode cX4_split 16 = .ok (.if_icmp .ge 5, 3) := by decide +kernel
theorem dX4_split_19 : decode cX4_split 19 = .ok (.iconst 0, 1) := by decide +kernel
theorem dX4_split_20 : decode cX4_split 20 = .ok (.ireturn, 1) := by decide +kernel
theorem dX4_split_21 : decode cX4_split 21 = .ok (.aconst_null, 1) := by decide +kernel
theorem dX4_split_22 : decode cX4_split 22 = .ok (.astore 6, 2) := by decide +kernel
theorem dX4_split_24 : decode cX4_split 24 = .ok (.aconst_null, 1) := by decide +kernel
theorem dX4_split_25 : decode cX4_split 25 = .ok (.astore 7, 2) := by decide +kernel
theorem dX4_split_27 : decode cX4_split 27 = .ok (.aload 4, 2) := by decide +kernel
theorem dX4_split_29 : decode cX4_split 29 = .ok (.getfield 75, 3) := by decide +kernel
theorem dX4_split_32 : decode cX4_split 32 = .ok (.astore 8, 2) := by decide +kernel
theorem dX4_split_34 : decode cX4_split 34 = .ok (.aload 8, 2) := by decide +kernel
theorem dX4_split_36 : decode cX4_split 36 = .ok (.ifnull 35, 3) := by decide +kernel
theorem dX4_split_39 : decode cX4_split 39 = .ok (.aload 7, 2) := by decide +kernel
theorem dX4_split_41 : decode cX4_split 41 = .ok (.ifnonnull 16, 3) := by decide +kernel
theorem dX4_split_44 : decode cX4_split 44 = .ok (.aload 8, 2) := by decide +kernel
theorem dX4_split_46 : decode cX4_split 46 = .ok (.iload_n 3, 1) := by decide +kernel
theorem dX4_split_47 : decode cX4_split 47 = .ok (.invokestatic 192, 3) := by decide +kernel
theorem dX4_split_50 : decode cX4_split 50 = .ok (.ifCond .eq 7, 3) := by decide +kernel
theorem dX4_split_53 : decode cX4_split 53 = .ok (.aload 8, 2) := by decide +kernel
theorem dX4_split_55 : decode cX4_split 55 = .ok (.astore 7, 2) := by decide +kernel
theorem dX4_split_57 : decode cX4_split 57 = .ok (.aload 8, 2) := by decide +kernel
theorem dX4_split_59 : decode cX4_split 59 = .ok (.astore 6, 2) := by decide +kernel
theorem dX4_split_61 : decode cX4_split 61 = .ok (.aload 8, 2) := by decide +kernel
theorem dX4_split_63 : decode cX4_split 63 = .ok (.getfield 141, 3) := by decide +kernel
theorem dX4_split_66 : decode cX4_split 66 = .ok (.astore 8, 2) := by decide +kernel
theorem dX4_split_68 : decode cX4_split 68 = .ok (.goto (-34), 3) := by decide +kernel
theorem dX4_split_71 : decode cX4_split 71 = .ok (.aload 7, 2) := by decide +kernel
theorem dX4_split_73 : decode cX4_split 73 = .ok (.ifnull 8, 3) := by decide +kernel
theorem dX4_split_76 : decode cX4_split 76 = .ok (.aload 6, 2) := by decide +kernel
theorem dX4_split_78 : decode cX4_split 78 = .ok (.ifnonnull 5, 3) := by decide +kernel
theorem dX4_split_81 : decode cX4_split 81 = .ok (.iconst 0, 1) := by decide +kernel
theorem dX4_split_82 : decode cX4_split 82 = .ok (.ireturn, 1) := by decide +kernel
theorem dX4_split_83 : decode cX4_split 83 = .ok (.aload 7, 2) := by decide +kernel
theorem dX4_split_85 : decode cX4_split 85 = .ok (.dup, 1) := by decide +kernel
theorem dX4_split_86 : decode cX4_split 86 = .ok (.getfield 112, 3) := by decide +kernel
theorem dX4_split_89 : decode cX4_split 89 = .ok (.iload_n 3, 1) := by decide +kernel
theorem dX4_split_90 : decode cX4_split 90 = .ok (.isub, 1) := by decide +kernel
theorem dX4_split_91 : decode cX4_split 91 = .ok (.putfield 112, 3) := by decide +kernel
theorem dX4_split_94 : decode cX4_split 94 = .ok (.aload 6, 2) := by decide +kernel
theorem dX4_split_96 : decode cX4_split 96 = .ok (.new 70, 3) := by decide +kernel
theorem dX4_split_99 : decode cX4_split 99 = .ok (.dup, 1) := by decide +kernel
theorem dX4_split_100 : decode cX4_split 100 = .ok (.aload 4, 2) := by decide +kernel
theorem dX4_split_102 : decode cX4_split 102 = .ok (.aload 5, 2) := by decide +kernel
theorem dX4_split_104 : decode cX4_split 104 = .ok (.getfield 196, 3) := by decide +kernel
theorem dX4_split_107 : decode cX4_split 107 = .ok (.iload_n 3, 1) := by decide +kernel
theorem dX4_split_108 : decode cX4_split 108 = .ok (.invokespecial 72, 3) := by decide +kernel
theorem dX4_split_111 : decode cX4_split 111 = .ok (.putfield 141, 3) := by decide +kernel
theorem dX4_split_114 : decode cX4_split 114 = .ok (.iconst 1, 1) := by decide +kernel
theorem dX4_split_115 : decode cX4_split 115 = .ok (.ireturn, 1) := by decide +kernel
set_option maxRecDepth 20000 in
theorem ggX4_like_X4_isWithin : GoodIn wsX4_like wsX4_isWithin := goodIn_r _ [7] (by decide +kernel) (by decide +kernel)
set_option maxRecDepth 20000 in
theorem gX4_like_X4_isWithin : GoodIn wsX4_like (va_wsS RX4 38 yX4_isWithin wsX4_isWithin) := goodIn_app (goodIn_of _ (by decide +kernel)) ggX4_like_X4_isWithin
theorem dX4_like_0 : decode cX4_like 0 = .ok (.iload_n 1, 1) := by decide +kernel
theorem dX4_like_1 : decode cX4_like 1 = .ok (.iconst 0, 1) := by decide +kernel
theorem dX4_like_2 : decode cX4_like 2 = .ok (.bipush 100, 2) := by decide +kernel
theorem dX4_like_4 : decode cX4_like 4 = .ok (.invokestatic 38, 3) := by decide +kernel
theorem dX4_like_7 : decode cX4_like 7 = .ok (.ifCond .ne 11, 3) := by decide +kernel
theorem dX4_like_10 : decode cX4_like 10 = .ok (.new 42, 3) := by decide +kernel
theorem dX4_like_13 : decode cX4_like 13 = .ok (.dup, 1) := by decide +kernel
theorem dX4_like_14 : decode cX4_like 14 = .ok (.invokespecial 44, 3) := by decide +kernel
theorem dX4_like_17 : decode cX4_like 17 = .ok (.athrow, 1) := by decide +kernel
theorem dX4_like_18 : decode cX4_like 18 = .ok (.aload_n 0, 1) := by decide +kernel
theorem dX4_like_19 : decode cX4_like 19 = .ok (.getfield 34, 3) := by decide +kernel
theorem dX4_like_22 : decode cX4_like 22 = .ok (.istore_n 2, 1) := by decide +kernel
theorem dX4_like_23 : decode cX4_like 23 = .ok (.aload_n 0, 1) := by decide +kernel
theorem dX4_like_24 : decode cX4_like 24 = .ok (.iload_n 1, 1) := by decide +kernel
theorem dX4_like_25 : decode cX4_like 25 = .ok (.putfield 34, 3) := by decide +kernel
theorem dX4_like_28 : decode cX4_like 28 = .ok (.iload_n 2, 1) := by decide +kernel
theorem dX4_like_29 : decode cX4_like 29 = .ok (.ireturn, 1) := by decide +kernel
theorem dX4_isWithin_0 : decode cX4_isWithin 0 = .ok (.iload_n 0, 1) := by decide +kernel
theorem dX4_isWithin_1 : decode cX4_isWithin 1 = .ok (.iload_n 1, 1) := by decide +kernel
theorem dX4_isWithin_2 : decode cX4_isWithin 2 = .ok (.if_icmp .lt 12, 3) := by decide +kernel
theorem dX4_isWithin_5 : decode cX4_isWithin 5 = .ok (.iload_n 0, 1) := by decide +kernel
theorem dX4_isWithin_6 : decode cX4_isWithin 6 = .ok (.iload_n 2, 1) := by decide +kernel
theorem dX4_isWithin_7 : decode cX4_isWithin 7 = .ok (.if_icmp .gt 7, 3) := by decide +kernel
theorem dX4_isWithin_10 : decode cX4_isWithin 10 = .ok (.iconst 1, 1) := by decide +kernel
theorem dX4_isWithin_11 : decode cX4_isWithin 11 = .ok (.goto 4, 3) := by decide +kernel
theorem dX4_isWithin_14 : decode cX4_isWithin 14 = .ok (.iconst 0, 1) := by decide +kernel
theorem dX4_isWithin_15 : decode cX4_isWithin 15 = .ok (.ireturn, 1) := by decide +kernel
theorem dX4_asNumber_0 : decode cX4_asNumber 0 = .ok (.iload_n 0, 1) := by decide +kernel
theorem dX4_asNumber_1 : decode cX4_asNumber 1 = .ok (.ifCond .eq 7, 3) := by decide +kernel
theorem dX4_asNumber_4 : decode cX4_asNumber 4 = .ok (.iconst 1, 1) := by decide +kernel
theorem dX4_asNumber_5 : decode cX4_asNumber 5 = .ok (.goto 4, 3) := by decide +kernel
theorem dX4_asNumber_8 : decode cX4_asNumber 8 = .ok (.iconst 0, 1) := by decide +kernel
theorem dX4_asNumber_9 : decode cX4_asNumber 9 = .ok (.ireturn, 1) := by decide +kernel
set_option maxRecDepth 20000 in
theorem ggX4_findPrinter_X4_isWithin : GoodIn wsX4_findPrinter wsX4_isWithin := goodIn_r _ [7] (by decide +kernel) (by decide +kernel)
set_option maxRecDepth 20000 in
theorem gX4_findPrinter_X4_isWithin : GoodIn wsX4_findPrinter (va_wsS RX4 38 yX4_isWithin wsX4_isWithin) := goodIn_app (goodIn_of _ (by decide +kernel)) ggX4_findPrinter_X4_isWithin
theorem dX4_findPrinter_0 : decode cX4_findPrinter 0 = .ok (.iload_n 1, 1) := by decide +kernel
theorem dX4_findPrinter_1 : decode cX4_findPrinter 1 = .ok (.iconst 1, 1) := by decide +kernel
theorem dX4_findPrinter_2 : decode cX4_findPrinter 2 = .ok (.aload_n 0, 1) := by decide +kernel
theorem dX4_findPrinter_3 : decode cX4_findPrinter 3 = .ok (.getfield 11, 3) := by decide +kernel
theorem dX4_findPrinter_6 : decode cX4_findPrinter 6 = .ok (.arraylength, 1) := by decide +kernel
theorem dX4_findPrinter_7 : decode cX4_findPrinter 7 = .ok (.invokestatic 38, 3) := by decide +kernel
theorem dX4_findPrinter_10 : decode cX4_findPrinter 10 = .ok (.ifCond .eq 14, 3) := by decide +kernel
theorem dX4_findPrinter_13 : decode cX4_findPrinter 13 = .ok (.aload_n 0, 1) := by decide +kernel
theorem dX4_findPrinter_14 : decode cX4_findPrinter 14 = .ok (.getfield 11, 3) := by decide +kernel
theorem dX4_findPrinter_17 : decode cX4_findPrinter 17 = .ok (.iload_n 1, 1) := by decide +kernel
theorem dX4_findPrinter_18 : decode cX4_findPrinter 18 = .ok (.iconst 1, 1) := by decide +kernel
theorem dX4_findPrinter_19 : decode cX4_findPrinter 19 = .ok (.isub, 1) := by decide +kernel
theorem dX4_findPrinter_20 : decode cX4_findPrinter 20 = .ok (.aaload, 1) := by decide +kernel
theorem dX4_findPrinter_21 : decode cX4_findPrinter 21 = .ok (.goto 4, 3) := by decide +kernel
theorem dX4_findPrinter_24 : decode cX4_findPrinter 24 = .ok (.aconst_null, 1) := by decide +kernel
theorem dX4_findPrinter_25 : decode cX4_findPrinter 25 = .ok (.astore_n 2, 1) := by decide +kernel
theorem dX4_findPrinter_26 : decode cX4_findPrinter 26 = .ok (.aload_n 2, 1) := by decide +kernel
theorem dX4_findPrinter_27 : decode cX4_findPrinter 27 = .ok (.ifnonnull 11, 3) := by decide +kernel
theorem dX4_findPrinter_30 : decode cX4_findPrinter 30 = .ok (.new 197, 3) := by decide +kernel
theorem dX4_findPrinter_33 : decode cX4_findPrinter 33 = .ok (.dup, 1) := by decide +kernel
theorem dX4_findPrinter_34 : decode cX4_findPrinter 34 = .ok (.invokespecial 199, 3) := by decide +kernel
theorem dX4_findPrinter_37 : decode cX4_findPrinter 37 = .ok (.athrow, 1) := by decide +kernel
theorem dX4_findPrinter_38 : decode cX4_findPrinter 38 = .ok (.aload_n 2, 1) := by decide +kernel
theorem dX4_findPrinter_39 : decode cX4_findPrinter 39 = .ok (.areturn, 1) := by decide +kernel
set_option maxRecDepth 20000 in
theorem ggX4_findTicket_X4_isWithin : GoodIn wsX4_findTicket wsX4_isWithin := goodIn_r _ [7] (by decide +kernel) (by decide +kernel)
set_option maxRecDepth 20000 in
theorem gX4_findTicket_X4_isWithin : GoodIn wsX4_findTicket (va_wsS RX4 38 yX4_isWithin wsX4_isWithin) := goodIn_app (goodIn_of _ (by decide +kernel)) ggX4_findTicket_X4_isWithin
theorem dX4_findTicket_0 : decode cX4_findTicket 0 = .ok (.iload_n 1, 1) := by decide +kernel
theorem dX4_findTicket_1 : decode cX4_findTicket 1 = .ok (.iconst 1, 1) := by decide +kernel
theorem dX4_findTicket_2 : decode cX4_findTicket 2 = .ok (.aload_n 0, 1) := by decide +kernel
theorem dX4_findTicket_3 : decode cX4_findTicket 3 = .ok (.getfield 17, 3) := by decide +kernel
theorem dX4_findTicket_6 : decode cX4_findTicket 6 = .ok (.arraylength, 1) := by decide +kernel
theorem dX4_findTicket_7 : decode cX4_findTicket 7 = .ok (.invokestatic 38, 3) := by decide +kernel
theorem dX4_findTicket_10 : decode cX4_findTicket 10 = .ok (.ifCond .eq 14, 3) := by decide +kernel
theorem dX4_findTicket_13 : decode cX4_findTicket 13 = .ok (.aload_n 0, 1) := by decide +kernel
theorem dX4_findTicket_14 : decode cX4_findTicket 14 = .ok (.getfield 17, 3) := by decide +kernel
theorem dX4_findTicket_17 : decode cX4_findTicket 17 = .ok (.iload_n 1, 1) := by decide +kernel
theorem dX4_findTicket_18 : decode cX4_findTicket 18 = .ok (.iconst 1, 1) := by decide +kernel
theorem dX4_findTicket_19 : decode cX4_findTicket 19 = .ok (.isub, 1) := by decide +kernel
theorem dX4_findTicket_20 : decode cX4_findTicket 20 = .ok (.aaload, 1) := by decide +kernel
theorem dX4_findTicket_21 : decode cX4_findTicket 21 = .ok (.goto 4, 3) := by decide +kernel
theorem dX4_findTicket_24 : decode cX4_findTicket 24 = .ok (.aconst_null, 1) := by decide +kernel
theorem dX4_findTicket_25 : decode cX4_findTicket 25 = .ok (.astore_n 2, 1) := by decide +kernel
theorem dX4_findTicket_26 : decode cX4_findTicket 26 = .ok (.aload_n 2, 1) := by decide +kernel
theorem dX4_findTicket_27 : decode cX4_findTicket 27 = .ok (.ifnonnull 11, 3) := by decide +kernel
theorem dX4_findTicket_30 : decode cX4_findTicket 30 = .ok (.new 197, 3) := by decide +kernel
theorem dX4_findTicket_33 : decode cX4_findTicket 33 = .ok (.dup, 1) := by decide +kernel
theorem dX4_findTicket_34 : decode cX4_findTicket 34 = .ok (.invokespecial 199, 3) := by decide +kernel
theorem dX4_findTicket_37 : decode cX4_findTicket 37 = .ok (.athrow, 1) := by decide +kernel
theorem dX4_findTicket_38 : decode cX4_findTicket 38 = .ok (.aload_n 2, 1) := by decide +kernel
theorem dX4_findTicket_39 : decode cX4_findTicket 39 = .ok (.areturn, 1) := by decide +kernel
set_option maxRecDepth 20000 in
theorem ggX4_findJob_X4_isWithin : GoodIn wsX4_findJob wsX4_isWithin := goodIn_r _ [7] (by decide +kernel) (by decide +kernel)
set_option maxRecDepth 20000 in
theorem gX4_findJob_X4_isWithin : GoodIn wsX4_findJob (va_wsS RX4 38 yX4_isWithin wsX4_isWithin) := goodIn_app (goodIn_of _ (by decide +kernel)) ggX4_findJob_X4_isWithin
theorem dX4_findJob_0 : decode cX4_findJob 0 = .ok (.iload_n 1, 1) := by decide +kernel
theorem dX4_findJob_1 : decode cX4_findJob 1 = .ok (.iconst 1, 1) := by decide +kernel
theorem dX4_findJob_2 : decode cX4_findJob 2 = .ok (.aload_n 0, 1) := by decide +kernel
theorem dX4_findJob_3 : decode cX4_findJob 3 = .ok (.getfield 23, 3) := by decide +kernel
theorem dX4_findJob_6 : decode cX4_findJob 6 = .ok (.arraylength, 1) := by decide +kernel
theorem dX4_findJob_7 : decode cX4_findJob 7 = .ok (.invokestatic 38, 3) := by decide +kernel
theorem dX4_findJob_10 : decode cX4_findJob 10 = .ok (.ifCond .eq 14, 3) := by decide +kernel
theorem dX4_findJob_13 : decode cX4_findJob 13 = .ok (.aload_n 0, 1) := by decide +kernel
theorem dX4_findJob_14 : decode cX4_findJob 14 = .ok (.getfield 23, 3) := by decide +kernel
theorem dX4_findJob_17 : decode cX4_findJob 17 = .ok (.iload_n 1, 1) := by decide +kernel
theorem dX4_findJob_18 : decode cX4_findJob 18 = .ok (.iconst 1, 1) := by decide +kernel
theorem dX4_findJob_19 : decode cX4_findJob 19 = .ok (.isub, 1) := by decide +kernel
theorem dX4_findJob_20 : decode cX4_findJob 20 = .ok (.aaload, 1) := by decide +kernel
theorem dX4_findJob_21 : decode cX4_findJob 21 = .ok (.goto 4, 3) := by decide +kernel
theorem dX4_findJob_24 : decode cX4_findJob 24 = .ok (.aconst_null, 1) := by decide +kernel
theorem dX4_findJob_25 : decode cX4_findJob 25 = .ok (.astore_n 2, 1) := by decide +kernel
theorem dX4_findJob_26 : decode cX4_findJob 26 = .ok (.aload_n 2, 1) := by decide +kernel
theorem dX4_findJob_27 : decode cX4_findJob 27 = .ok (.ifnonnull 11, 3) := by decide +kernel
theorem dX4_findJob_30 : decode cX4_findJob 30 = .ok (.new 197, 3) := by decide +kernel
theorem dX4_findJob_33 : decode cX4_findJob 33 = .ok (.dup, 1) := by decide +kernel
theorem dX4_findJob_34 : decode cX4_findJob 34 = .ok (.invokespecial 199, 3) := by decide +kernel
theorem dX4_findJob_37 : decode cX4_findJob 37 = .ok (.athrow, 1) := by decide +kernel
theorem dX4_findJob_38 : decode cX4_findJob 38 = .ok (.aload_n 2, 1) := by decide +kernel
theorem dX4_findJob_39 : decode cX4_findJob 39 = .ok (.areturn, 1) := by decide +kernel
set_option maxRecDepth 20000 in
theorem ggX4_choosePart_X4_firstPartFor : GoodIn wsX4_choosePart wsX4_firstPartFor := goodIn_r _ [9, 10, 11, 12, 13, 14, 15, 16, 17, 18, 19, 20, 21, 22, 23, 45, 46, 47, 48, 49, 50, 51, 52, 53, 54, 55, 56, 57, 58, 59, 60, 61, 62, 63, 64, 65, 66, 67, 68, 69, 70, 71] (by decide +kernel) (by decide +kernel)
set_option maxRecDepth 20000 in
theorem gX4_choosePart_X4_firstPartFor : GoodIn wsX4_choosePart (va_wsS RX4 200 yX4_firstPartFor wsX4_firstPartFor) := goodIn_app (goodIn_of _ (by decide +kernel)) ggX4_choosePart_X4_firstPartFor
set_option maxRecDepth 20000 in
theorem ggX4_choosePart_X4_goesBefore : GoodIn wsX4_choosePart wsX4_goesBefore := goodIn_r _ [27, 28, 29, 30, 31, 32, 33, 3, 45, 46, 47, 48, 49, 50, 51, 52, 66, 67, 68, 69, 70, 71, 60, 61, 62, 63, 64, 65, 34, 35, 36, 37, 38, 39, 40, 41, 42, 43, 44] (by decide +kernel) (by decide +kernel)
set_option maxRecDepth 20000 in
theorem gX4_choosePart_X4_goesBefore : GoodIn wsX4_choosePart (wsV RX4 204 RX4 yX4_goesBefore wsX4_goesBefore) := goodIn_app (goodIn_of _ (by decide +kernel)) ggX4_choosePart_X4_goesBefore
theorem dX4_choosePart_0 : decode cX4_choosePart 0 = .ok (.aconst_null, 1) := by decide +kernel
theorem dX4_choosePart_1 : decode cX4_choosePart 1 = .ok (.astore_n 2, 1) := by decide +kernel
theorem dX4_choosePart_2 : decode cX4_choosePart 2 = .ok (.aload_n 0, 1) := by decide +kernel
theorem dX4_choosePart_3 : decode cX4_choosePart 3 = .ok (.getfield 23, 3) := by decide +kernel
theorem dX4_choosePart_6 : decode cX4_choosePart 6 = .ok (.astore_n 3, 1) := by decide +kernel
theorem dX4_choosePart_7 : decode cX4_choosePart 7 = .ok (.aload_n 3, 1) := by decide +kernel
theorem dX4_choosePart_8 : decode cX4_choosePart 8 = .ok (.arraylength, 1) := by decide +kernel
theorem dX4_choosePart_9 : decode cX4_choosePart 9 = .ok (.istore 4, 2) := by decide +kernel
theorem dX4_choosePart_11 : decode cX4_choosePart 11 = .ok (.iconst 0, 1) := by decide +kernel
theorem dX4_choosePart_12 : decode cX4_choosePart 12 = .ok (.istore 5, 2) := by decide +kernel
theorem dX4_choosePart_14 : decode cX4_choosePart 14 = .ok (.iload 5, 2) := by decide +kernel
theorem dX4_choosePart_16 : decode cX4_choosePart 16 = .ok (.iload 4, 2) := by decide +kernel
theorem dX4_choosePart_18 : decode cX4_choosePart 18 = .ok (.if_icmp .ge 75, 3) := by decide +kernel
theorem dX4_choosePart_21 : decode cX4_choosePart 21 = .ok (.aload_n 3, 1) := by decide +kernel
theorem dX4_choosePart_22 : decode cX4_choosePart 22 = .ok (.iload 5, 2) := by decide +kernel
theorem dX4_choosePart_24 : decode cX4_choosePart 24 = .ok (.aaload, 1) := by decide +kernel
theorem dX4_choosePart_25 : decode cX4_choosePart 25 = .ok (.astore 6, 2) := by decide +kernel
theorem dX4_choosePart_27 : decode cX4_choosePart 27 = .ok (.aload 6, 2) := by decide +kernel
theorem dX4_choosePart_29 : decode cX4_choosePart 29 = .ok (.ifnull 58, 3) := by decide +kernel
theorem dX4_choosePart_32 : decode cX4_choosePart 32 = .ok (.aload 6, 2) := by decide +kernel
theorem dX4_choosePart_34 : decode cX4_choosePart 34 = .ok (.getfield 133, 3) := by decide +kernel
theorem dX4_choosePart_37 : decode cX4_choosePart 37 = .ok (.ifCond .ne 50, 3) := by decide +kernel
theorem dX4_choosePart_40 : decode cX4_choosePart 40 = .ok (.aload 6, 2) := by decide +kernel
theorem dX4_choosePart_42 : decode cX4_choosePart 42 = .ok (.getfield 185, 3) := by decide +kernel
theorem dX4_choosePart_45 : decode cX4_choosePart 45 = .ok (.aload_n 0, 1) := by decide +kernel
theorem dX4_choosePart_46 : decode cX4_choosePart 46 = .ok (.getfield 83, 3) := by decide +kernel
theorem dX4_choosePart_49 : decode cX4_choosePart 49 = .ok (.lcmp, 1) := by decide +kernel
theorem dX4_choosePart_50 : decode cX4_choosePart 50 = .ok (.ifCond .gt 37, 3) := by decide +kernel
theorem dX4_choosePart_53 : decode cX4_choosePart 53 = .ok (.aload 6, 2) := by decide +kernel
theorem dX4_choosePart_55 : decode cX4_choosePart 55 = .ok (.aload_n 1, 1) := by decide +kernel
theorem dX4_choosePart_56 : decode cX4_choosePart 56 = .ok (.invokestatic 200, 3) := by decide +kernel
theorem dX4_choosePart_59 : decode cX4_choosePart 59 = .ok (.astore 7, 2) := by decide +kernel
theorem dX4_choosePart_61 : decode cX4_choosePart 61 = .ok (.aload 7, 2) := by decide +kernel
theorem dX4_choosePart_63 : decode cX4_choosePart 63 = .ok (.ifnull 24, 3) := by decide +kernel
theorem dX4_choosePart_66 : decode cX4_choosePart 66 = .ok (.aload_n 2, 1) := by decide +kernel
theorem dX4_choosePart_67 : decode cX4_choosePart 67 = .ok (.ifnull 17, 3) := by decide +kernel
theorem dX4_choosePart_70 : decode cX4_choosePart 70 = .ok (.aload_n 0, 1) := by decide +kernel
theorem dX4_choosePart_71 : decode cX4_choosePart 71 = .ok (.aload 6, 2) := by decide +kernel
theorem dX4_choosePart_73 : decode cX4_choosePart 73 = .ok (.aload_n 2, 1) := by decide +kernel
theorem dX4_choosePart_74 : decode cX4_choosePart 74 = .ok (.getfield 101, 3) := by decide +kernel
theorem dX4_choosePart_77 : decode cX4_choosePart 77 = .ok (.aload_n 1, 1) := by decide +kernel
theorem dX4_choosePart_78 : decode cX4_choosePart 78 = .ok (.invokevirtual 204, 3) := by decide +kernel
theorem dX4_choosePart_81 : decode cX4_choosePart 81 = .ok (.ifCond .eq 6, 3) := by decide +kernel
theorem dX4_choosePart_84 : decode cX4_choosePart 84 = .ok (.aload 7, 2) := by decide +kernel
theorem dX4_choosePart_86 : decode cX4_choosePart 86 = .ok (.astore_n 2, 1) := by decide +kernel
theorem dX4_choosePart_87 : decode cX4_choosePart 87 = .ok (.iinc 5 1, 3) := by decide +kernel
theorem dX4_choosePart_90 : decode cX4_choosePart 90 = .ok (.goto (-76), 3) := by decide +kernel
theorem dX4_choosePart_93 : decode cX4_choosePart 93 = .ok (.aload_n 2, 1) := by decide +kernel
theorem dX4_choosePart_94 : decode cX4_choosePart 94 = .ok (.areturn, 1) := by decide +kernel
set_option maxRecDepth 20000 in
theorem ggX4_firstPartFor_X2_fits : GoodIn wsX4_firstPartFor wsX2_fits := goodIn_r _ [8, 9, 10, 11, 12, 13, 14, 30, 31, 32, 33, 34, 35, 23, 24, 25, 26, 27, 28, 29, 15, 16, 17, 18, 19, 20, 21, 22, 36, 37, 38, 39, 40, 41] (by decide +kernel) (by decide +kernel)
set_option maxRecDepth 20000 in
theorem gX4_firstPartFor_X2_fits : GoodIn wsX4_firstPartFor (wsV RX4 208 RX2 yX2_fits wsX2_fits) := goodIn_app (goodIn_of _ (by decide +kernel)) ggX4_firstPartFor_X2_fits
theorem dX4_firstPartFor_0 : decode cX4_firstPartFor 0 = .ok (.aload_n 0, 1) := by decide +kernel
theorem dX4_firstPartFor_1 : decode cX4_firstPartFor 1 = .ok (.getfield 75, 3) := by decide +kernel
theorem dX4_firstPartFor_4 : decode cX4_firstPartFor 4 = .ok (.astore_n 2, 1) := by decide +kernel
theorem dX4_firstPartFor_5 : decode cX4_firstPartFor 5 = .ok (.aload_n 2, 1) := by decide +kernel
theorem dX4_firstPartFor_6 : decode cX4_firstPartFor 6 = .ok (.ifnull 28, 3) := by decide +kernel
theorem dX4_firstPartFor_9 : decode cX4_firstPartFor 9 = .ok (.aload_n 2, 1) := by decide +kernel
theorem dX4_firstPartFor_10 : decode cX4_firstPartFor 10 = .ok (.getfield 119, 3) := by decide +kernel
theorem dX4_firstPartFor_13 : decode cX4_firstPartFor 13 = .ok (.ifCond .ne 13, 3) := by decide +kernel
theorem dX4_firstPartFor_16 : decode cX4_firstPartFor 16 = .ok (.aload_n 1, 1) := by decide +kernel
theorem dX4_firstPartFor_17 : decode cX4_firstPartFor 17 = .ok (.aload_n 2, 1) := by decide +kernel
theorem dX4_firstPartFor_18 : decode cX4_firstPartFor 18 = .ok (.invokevirtual 208, 3) := by decide +kernel
theorem dX4_firstPartFor_21 : decode cX4_firstPartFor 21 = .ok (.ifCond .eq 5, 3) := by decide +kernel
theorem dX4_firstPartFor_24 : decode cX4_firstPartFor 24 = .ok (.aload_n 2, 1) := by decide +kernel
theorem dX4_firstPartFor_25 : decode cX4_firstPartFor 25 = .ok (.areturn, 1) := by decide +kernel
theorem dX4_firstPartFor_26 : decode cX4_firstPartFor 26 = .ok (.aload_n 2, 1) := by decide +kernel
theorem dX4_firstPartFor_27 : decode cX4_firstPartFor 27 = .ok (.getfield 141, 3) := by decide +kernel
theorem dX4_firstPartFor_30 : decode cX4_firstPartFor 30 = .ok (.astore_n 2, 1) := by decide +kernel
theorem dX4_firstPartFor_31 : decode cX4_firstPartFor 31 = .ok (.goto (-26), 3) := by decide +kernel
theorem dX4_firstPartFor_34 : decode cX4_firstPartFor 34 = .ok (.aconst_null, 1) := by decide +kernel
theorem dX4_firstPartFor_35 : decode cX4_firstPartFor 35 = .ok (.areturn, 1) := by decide +kernel
theorem dX4_goesBefore_0 : decode cX4_goesBefore 0 = .ok (.aload_n 1, 1) := by decide +kernel
theorem dX4_goesBefore_1 : decode cX4_goesBefore 1 = .ok (.getfield 212, 3) := by decide +kernel
theorem dX4_goesBefore_4 : decode cX4_goesBefore 4 = .ok (.aload_n 2, 1) := by decide +kernel
theorem dX4_goesBefore_5 : decode cX4_goesBefore 5 = .ok (.getfield 212, 3) := by decide +kernel
theorem dX4_goesBefore_8 : decode cX4_goesBefore 8 = .ok (.if_icmp .eq 20, 3) := by decide +kernel
theorem dX4_goesBefore_11 : decode cX4_goesBefore 11 = .ok (.aload_n 1, 1) := by decide +kernel
theorem dX4_goesBefore_12 : decode cX4_goesBefore 12 = .ok (.getfield 212, 3) := by decide +kernel
theorem dX4_goesBefore_15 : decode cX4_goesBefore 15 = .ok (.aload_n 2, 1) := by decide +kernel
theorem dX4_goesBefore_16 : decode cX4_goesBefore 16 = .ok (.getfield 212, 3) := by decide +kernel
theorem dX4_goesBefore_19 : decode cX4_goesBefore 19 = .ok (.if_icmp .le 7, 3) := by decide +kernel
theorem dX4_goesBefore_22 : decode cX4_goesBefore 22 = .ok (.iconst 1, 1) := by decide +kernel
theorem dX4_goesBefore_23 : decode cX4_goesBefore 23 = .ok (.goto 4, 3) := by decide +kernel
theorem dX4_goesBefore_26 : decode cX4_goesBefore 26 = .ok (.iconst 0, 1) := by decide +kernel
theorem dX4_goesBefore_27 : decode cX4_goesBefore 27 = .ok (.ireturn, 1) := by decide +kernel
theorem dX4_goesBefore_28 : decode cX4_goesBefore 28 = .ok (.aload_n 1, 1) := by decide +kernel
theorem dX4_goesBefore_29 : decode cX4_goesBefore 29 = .ok (.getfield 215, 3) := by decide +kernel
theorem dX4_goesBefore_32 : decode cX4_goesBefore 32 = .ok (.getfield 219, 3) := by decide +kernel
theorem dX4_goesBefore_35 : decode cX4_goesBefore 35 = .ok (.aload_n 3, 1) := by decide +kernel
theorem dX4_goesBefore_36 : decode cX4_goesBefore 36 = .ok (.getfield 222, 3) := by decide +kernel
theorem dX4_goesBefore_39 : decode cX4_goesBefore 39 = .ok (.if_icmp .ne 7, 3) := by decide +kernel
theorem dX4_goesBefore_42 : decode cX4_goesBefore 42 = .ok (.iconst 1, 1) := by decide +kernel
theorem dX4_goesBefore_43 : decode cX4_goesBefore 43 = .ok (.goto 4, 3) := by decide +kernel
theorem dX4_goesBefore_46 : decode cX4_goesBefore 46 = .ok (.iconst 0, 1) := by decide +kernel
theorem dX4_goesBefore_47 : decode cX4_goesBefore 47 = .ok (.istore 4, 2) := by decide +kernel
theorem dX4_goesBefore_49 : decode cX4_goesBefore 49 = .ok (.aload_n 2, 1) := by decide +kernel
theorem dX4_goesBefore_50 : decode cX4_goesBefore 50 = .ok (.getfield 215, 3) := by decide +kernel
theorem dX4_goesBefore_53 : decode cX4_goesBefore 53 = .ok (.getfield 219, 3) := by decide +kernel
theorem dX4_goesBefore_56 : decode cX4_goesBefore 56 = .ok (.aload_n 3, 1) := by decide +kernel
theorem dX4_goesBefore_57 : decode cX4_goesBefore 57 = .ok (.getfield 222, 3) := by decide +kernel
theorem dX4_goesBefore_60 : decode cX4_goesBefore 60 = .ok (.if_icmp .ne 7, 3) := by decide +kernel
theorem dX4_goesBefore_63 : decode cX4_goesBefore 63 = .ok (.iconst 1, 1) := by decide +kernel
theorem dX4_goesBefore_64 : decode cX4_goesBefore 64 = .ok (.goto 4, 3) := by decide +kernel
theorem dX4_goesBefore_67 : decode cX4_goesBefore 67 = .ok (.iconst 0, 1) := by decide +kernel
theorem dX4_goesBefore_68 : decode cX4_goesBefore 68 = .ok (.istore 5, 2) := by decide +kernel
theorem dX4_goesBefore_70 : decode cX4_goesBefore 70 = .ok (.aload_n 3, 1) := by decide +kernel
theorem dX4_goesBefore_71 : decode cX4_goesBefore 71 = .ok (.getfield 223, 3) := by decide +kernel
theorem dX4_goesBefore_74 : decode cX4_goesBefore 74 = .ok (.aload_n 0, 1) := by decide +kernel
theorem dX4_goesBefore_75 : decode cX4_goesBefore 75 = .ok (.getfield 34, 3) := by decide +kernel
theorem dX4_goesBefore_78 : decode cX4_goesBefore 78 = .ok (.if_icmp .ge 13, 3) := by decide +kernel
theorem dX4_goesBefore_81 : decode cX4_goesBefore 81 = .ok (.iload 4, 2) := by decide +kernel
theorem dX4_goesBefore_83 : decode cX4_goesBefore 83 = .ok (.iload 5, 2) := by decide +kernel
theorem dX4_goesBefore_85 : decode cX4_goesBefore 85 = .ok (.if_icmp .eq 6, 3) := by decide +kernel
theorem dX4_goesBefore_88 : decode cX4_goesBefore 88 = .ok (.iload 4, 2) := by decide +kernel
theorem dX4_goesBefore_90 : decode cX4_goesBefore 90 = .ok (.ireturn, 1) := by decide +kernel
theorem dX4_goesBefore_91 : decode cX4_goesBefore 91 = .ok (.aload_n 1, 1) := by decide +kernel
theorem dX4_goesBefore_92 : decode cX4_goesBefore 92 = .ok (.getfield 185, 3) := by decide +kernel
theorem dX4_goesBefore_95 : decode cX4_goesBefore 95 = .ok (.aload_n 2, 1) := by decide +kernel
theorem dX4_goesBefore_96 : decode cX4_goesBefore 96 = .ok (.getfield 185, 3) := by decide +kernel
theorem dX4_goesBefore_99 : decode cX4_goesBefore 99 = .ok (.lcmp, 1) := by decide +kernel
theorem dX4_goesBefore_100 : decode cX4_goesBefore 100 = .ok (.ifCond .ge 7, 3) := by decide +kernel
theorem dX4_goesBefore_103 : decode cX4_goesBefore 103 = .ok (.iconst 1, 1) := by decide +kernel
theorem dX4_goesBefore_104 : decode cX4_goesBefore 104 = .ok (.goto 4, 3) := by decide +kernel
theorem dX4_goesBefore_107 : decode cX4_goesBefore 107 = .ok (.iconst 0, 1) := by decide +kernel
theorem dX4_goesBefore_108 : decode cX4_goesBefore 108 = .ok (.ireturn, 1) := by decide +kernel
theorem dX4_bringTo_0 : decode cX4_bringTo 0 = .ok (.aload_n 1, 1) := by decide +kernel
theorem dX4_bringTo_1 : decode cX4_bringTo 1 = .ok (.getfield 101, 3) := by decide +kernel
theorem dX4_bringTo_4 : decode cX4_bringTo 4 = .ok (.getfield 215, 3) := by decide +kernel
theorem dX4_bringTo_7 : decode cX4_bringTo 7 = .ok (.astore_n 2, 1) := by decide +kernel
theorem dX4_bringTo_8 : decode cX4_bringTo 8 = .ok (.aload_n 2, 1) := by decide +kernel
theorem dX4_bringTo_9 : decode cX4_bringTo 9 = .ok (.getfield 219, 3) := by decide +kernel
theorem dX4_bringTo_12 : decode cX4_bringTo 12 = .ok (.aload_n 0, 1) := by decide +kernel
theorem dX4_bringTo_13 : decode cX4_bringTo 13 = .ok (.getfield 222, 3) := by decide +kernel
theorem dX4_bringTo_16 : decode cX4_bringTo 16 = .ok (.if_icmp .eq 29, 3) := by decide +kernel
theorem dX4_bringTo_19 : decode cX4_bringTo 19 = .ok (.aload_n 0, 1) := by decide +kernel
theorem dX4_bringTo_20 : decode cX4_bringTo 20 = .ok (.aload_n 2, 1) := by decide +kernel
theorem dX4_bringTo_21 : decode cX4_bringTo 21 = .ok (.getfield 219, 3) := by decide +kernel
theorem dX4_bringTo_24 : decode cX4_bringTo 24 = .ok (.putfield 222, 3) := by decide +kernel
theorem dX4_bringTo_27 : decode cX4_bringTo 27 = .ok (.aload_n 0, 1) := by decide +kernel
theorem dX4_bringTo_28 : decode cX4_bringTo 28 = .ok (.iconst 0, 1) := by decide +kernel
theorem dX4_bringTo_29 : decode cX4_bringTo 29 = .ok (.putfield 223, 3) := by decide +kernel
theorem dX4_bringTo_32 : decode cX4_bringTo 32 = .ok (.aload_n 2, 1) := by decide +kernel
theorem dX4_bringTo_33 : decode cX4_bringTo 33 = .ok (.dup, 1) := by decide +kernel
theorem dX4_bringTo_34 : decode cX4_bringTo 34 = .ok (.getfield 175, 3) := by decide +kernel
theorem dX4_bringTo_37 : decode cX4_bringTo 37 = .ok (.lconst 1, 1) := by decide +kernel
theorem dX4_bringTo_38 : decode cX4_bringTo 38 = .ok (.ladd, 1) := by decide +kernel
theorem dX4_bringTo_39 : decode cX4_bringTo 39 = .ok (.putfield 175, 3) := by decide +kernel
theorem dX4_bringTo_42 : decode cX4_bringTo 42 = .ok (.goto 13, 3) := by decide +kernel
theorem dX4_bringTo_45 : decode cX4_bringTo 45 = .ok (.aload_n 0, 1) := by decide +kernel
theorem dX4_bringTo_46 : decode cX4_bringTo 46 = .ok (.dup, 1) := by decide +kernel
theorem dX4_bringTo_47 : decode cX4_bringTo 47 = .ok (.getfield 223, 3) := by decide +kernel
theorem dX4_bringTo_50 : decode cX4_bringTo 50 = .ok (.iconst 1, 1) := by decide +kernel
theorem dX4_bringTo_51 : decode cX4_bringTo 51 = .ok (.iadd, 1) := by decide +kernel
theorem dX4_bringTo_52 : decode cX4_bringTo 52 = .ok (.putfield 223, 3) := by decide +kernel
theorem dX4_bringTo_55 : decode cX4_bringTo 55 = .ok (.aload_n 1, 1) := by decide +kernel
theorem dX4_bringTo_56 : decode cX4_bringTo 56 = .ok (.iconst 1, 1) := by decide +kernel
theorem dX4_bringTo_57 : decode cX4_bringTo 57 = .ok (.putfield 119, 3) := by decide +kernel
theorem dX4_bringTo_60 : decode cX4_bringTo 60 = .ok (.aload_n 0, 1) := by decide +kernel
theorem dX4_bringTo_61 : decode cX4_bringTo 61 = .ok (.aload_n 1, 1) := by decide +kernel
theorem dX4_bringTo_62 : decode cX4_bringTo 62 = .ok (.putfield 87, 3) := by decide +kernel
theorem dX4_bringTo_65 : decode cX4_bringTo 65 = .ok (.aload_n 0, 1) := by decide +kernel
theorem dX4_bringTo_66 : decode cX4_bringTo 66 = .ok (.iconst 1, 1) := by decide +kernel
theorem dX4_bringTo_67 : decode cX4_bringTo 67 = .ok (.putfield 226, 3) := by decide +kernel
theorem dX4_bringTo_70 : decode cX4_bringTo 70 = .ok (.return_, 1) := by decide +kernel
set_option maxRecDepth 20000 in
theorem ggX4_printInCopy_X4_sheetsOfTwoSides : GoodIn wsX4_printInCopy wsX4_sheetsOfTwoSides := goodIn_r _ [16] (by decide +kernel) (by decide +kernel)
set_option maxRecDepth 20000 in
theorem gX4_printInCopy_X4_sheetsOfTwoSides : GoodIn wsX4_printInCopy (va_wsS RX4 241 yX4_sheetsOfTwoSides wsX4_sheetsOfTwoSides) := goodIn_app (goodIn_of _ (by decide +kernel)) ggX4_printInCopy_X4_sheetsOfTwoSides
set_option maxRecDepth 20000 in
theorem ggX4_printInCopy_X1_countPages : GoodIn wsX4_printInCopy wsX1_countPages := goodIn_r _ [21, 22, 23, 24, 25, 26, 27, 28, 29, 30, 31, 32, 33, 34, 35, 36, 37, 38, 39, 40] (by decide +kernel) (by decide +kernel)
set_option maxRecDepth 20000 in
theorem gX4_printInCopy_X1_countPages : GoodIn wsX4_printInCopy (wsV RX4 245 RX1 yX1_countPages wsX1_countPages) := goodIn_app (goodIn_of _ (by decide +kernel)) ggX4_printInCopy_X1_countPages
theorem dX4_printInCopy_0 : decode cX4_printInCopy 0 = .ok (.aload_n 1, 1) := by decide +kernel
theorem dX4_printInCopy_1 : decode cX4_printInCopy 1 = .ok (.getfield 122, 3) := by decide +kernel
theorem dX4_printInCopy_4 : decode cX4_printInCopy 4 = .ok (.istore_n 3, 1) := by decide +kernel
theorem dX4_printInCopy_5 : decode cX4_printInCopy 5 = .ok (.iload_n 2, 1) := by decide +kernel
theorem dX4_printInCopy_6 : decode cX4_printInCopy 6 = .ok (.aload_n 1, 1) := by decide +kernel
theorem dX4_printInCopy_7 : decode cX4_printInCopy 7 = .ok (.getfield 101, 3) := by decide +kernel
theorem dX4_printInCopy_10 : decode cX4_printInCopy 10 = .ok (.getfield 229, 3) := by decide +kernel
theorem dX4_printInCopy_13 : decode cX4_printInCopy 13 = .ok (.iload_n 3, 1) := by decide +kernel
theorem dX4_printInCopy_14 : decode cX4_printInCopy 14 = .ok (.isub, 1) := by decide +kernel
theorem dX4_printInCopy_15 : decode cX4_printInCopy 15 = .ok (.invokestatic 232, 3) := by decide +kernel
theorem dX4_printInCopy_18 : decode cX4_printInCopy 18 = .ok (.istore 4, 2) := by decide +kernel
theorem dX4_printInCopy_20 : decode cX4_printInCopy 20 = .ok (.aload_n 1, 1) := by decide +kernel
theorem dX4_printInCopy_21 : decode cX4_printInCopy 21 = .ok (.getfield 101, 3) := by decide +kernel
theorem dX4_printInCopy_24 : decode cX4_printInCopy 24 = .ok (.getfield 215, 3) := by decide +kernel
theorem dX4_printInCopy_27 : decode cX4_printInCopy 27 = .ok (.astore 5, 2) := by decide +kernel
theorem dX4_printInCopy_29 : decode cX4_printInCopy 29 = .ok (.aload 5, 2) := by decide +kernel
theorem dX4_printInCopy_31 : decode cX4_printInCopy 31 = .ok (.dup, 1) := by decide +kernel
theorem dX4_printInCopy_32 : decode cX4_printInCopy 32 = .ok (.getfield 169, 3) := by decide +kernel
theorem dX4_printInCopy_35 : decode cX4_printInCopy 35 = .ok (.iload 4, 2) := by decide +kernel
theorem dX4_printInCopy_37 : decode cX4_printInCopy 37 = .ok (.i2l, 1) := by decide +kernel
theorem dX4_printInCopy_38 : decode cX4_printInCopy 38 = .ok (.ladd, 1) := by decide +kernel
theorem dX4_printInCopy_39 : decode cX4_printInCopy 39 = .ok (.putfield 169, 3) := by decide +kernel
theorem dX4_printInCopy_42 : decode cX4_printInCopy 42 = .ok (.aload 5, 2) := by decide +kernel
theorem dX4_printInCopy_44 : decode cX4_printInCopy 44 = .ok (.dup, 1) := by decide +kernel
theorem dX4_printInCopy_45 : decode cX4_printInCopy 45 = .ok (.getfield 172, 3) := by decide +kernel
theorem dX4_printInCopy_48 : decode cX4_printInCopy 48 = .ok (.aload 5, 2) := by decide +kernel
theorem dX4_printInCopy_50 : decode cX4_printInCopy 50 = .ok (.getfield 238, 3) := by decide +kernel
theorem dX4_printInCopy_53 : decode cX4_printInCopy 53 = .ok (.iconst 1, 1) := by decide +kernel
theorem dX4_printInCopy_54 : decode cX4_printInCopy 54 = .ok (.if_icmp .ne 9, 3) := by decide +kernel
theorem dX4_printInCopy_57 : decode cX4_printInCopy 57 = .ok (.iload 4, 2) := by decide +kernel
theorem dX4_printInCopy_59 : decode cX4_printInCopy 59 = .ok (.i2l, 1) := by decide +kernel
theorem dX4_printInCopy_60 : decode cX4_printInCopy 60 = .ok (.goto 14, 3) := by decide +kernel
theorem dX4_printInCopy_63 : decode cX4_printInCopy 63 = .ok (.iload_n 3, 1) := by decide +kernel
theorem dX4_printInCopy_64 : decode cX4_printInCopy 64 = .ok (.iload 4, 2) := by decide +kernel
theorem dX4_printInCopy_66 : decode cX4_printInCopy 66 = .ok (.aload_n 0, 1) := by decide +kernel
theorem dX4_printInCopy_67 : decode cX4_printInCopy 67 = .ok (.getfield 226, 3) := by decide +kernel
theorem dX4_printInCopy_70 : decode cX4_printInCopy 70 = .ok (.invokestatic 241, 3) := by decide +kernel
theorem dX4_printInCopy_73 : decode cX4_printInCopy 73 = .ok (.i2l, 1) := by decide +kernel
theorem dX4_printInCopy_74 : decode cX4_printInCopy 74 = .ok (.ladd, 1) := by decide +kernel
theorem dX4_printInCopy_75 : decode cX4_printInCopy 75 = .ok (.putfield 172, 3) := by decide +kernel
theorem dX4_printInCopy_78 : decode cX4_printInCopy 78 = .ok (.aload_n 0, 1) := by decide +kernel
theorem dX4_printInCopy_79 : decode cX4_printInCopy 79 = .ok (.iconst 0, 1) := by decide +kernel
theorem dX4_printInCopy_80 : decode cX4_printInCopy 80 = .ok (.putfield 226, 3) := by decide +kernel
theorem dX4_printInCopy_83 : decode cX4_printInCopy 83 = .ok (.aload_n 1, 1) := by decide +kernel
theorem dX4_printInCopy_84 : decode cX4_printInCopy 84 = .ok (.iload 4, 2) := by decide +kernel
theorem dX4_printInCopy_86 : decode cX4_printInCopy 86 = .ok (.invokevirtual 245, 3) := by decide +kernel
theorem dX4_printInCopy_89 : decode cX4_printInCopy 89 = .ok (.iload 4, 2) := by decide +kernel
theorem dX4_printInCopy_91 : decode cX4_printInCopy 91 = .ok (.ireturn, 1) := by decide +kernel
theorem dX4_sheetsOfTwoSides_0 : decode cX4_sheetsOfTwoSides 0 = .ok (.iload_n 0, 1) := by decide +kernel
theorem dX4_sheetsOfTwoSides_1 : decode cX4_sheetsOfTwoSides 1 = .ok (.iload_n 1, 1) := by decide +kernel
theorem dX4_sheetsOfTwoSides_2 : decode cX4_sheetsOfTwoSides 2 = .ok (.iadd, 1) := by decide +kernel
theorem dX4_sheetsOfTwoSides_3 : decode cX4_sheetsOfTwoSides 3 = .ok (.iconst 1, 1) := by decide +kernel
theorem dX4_sheetsOfTwoSides_4 : decode cX4_sheetsOfTwoSides 4 = .ok (.iadd, 1) := by decide +kernel
theorem dX4_sheetsOfTwoSides_5 : decode cX4_sheetsOfTwoSides 5 = .ok (.iconst 2, 1) := by decide +kernel
theorem dX4_sheetsOfTwoSides_6 : decode cX4_sheetsOfTwoSides 6 = .ok (.idiv, 1) := by decide +kernel
theorem dX4_sheetsOfTwoSides_7 : decode cX4_sheetsOfTwoSides 7 = .ok (.iload_n 0, 1) := by decide +kernel
theorem dX4_sheetsOfTwoSides_8 : decode cX4_sheetsOfTwoSides 8 = .ok (.iconst 1, 1) := by decide +kernel
theorem dX4_sheetsOfTwoSides_9 : decode cX4_sheetsOfTwoSides 9 = .ok (.iadd, 1) := by decide +kernel
theorem dX4_sheetsOfTwoSides_10 : decode cX4_sheetsOfTwoSides 10 = .ok (.iconst 2, 1) := by decide +kernel
theorem dX4_sheetsOfTwoSides_11 : decode cX4_sheetsOfTwoSides 11 = .ok (.idiv, 1) := by decide +kernel
theorem dX4_sheetsOfTwoSides_12 : decode cX4_sheetsOfTwoSides 12 = .ok (.isub, 1) := by decide +kernel
theorem dX4_sheetsOfTwoSides_13 : decode cX4_sheetsOfTwoSides 13 = .ok (.istore_n 3, 1) := by decide +kernel
theorem dX4_sheetsOfTwoSides_14 : decode cX4_sheetsOfTwoSides 14 = .ok (.iload_n 0, 1) := by decide +kernel
theorem dX4_sheetsOfTwoSides_15 : decode cX4_sheetsOfTwoSides 15 = .ok (.iconst 2, 1) := by decide +kernel
theorem dX4_sheetsOfTwoSides_16 : decode cX4_sheetsOfTwoSides 16 = .ok (.irem, 1) := by decide +kernel
theorem dX4_sheetsOfTwoSides_17 : decode cX4_sheetsOfTwoSides 17 = .ok (.iconst 1, 1) := by decide +kernel
theorem dX4_sheetsOfTwoSides_18 : decode cX4_sheetsOfTwoSides 18 = .ok (.if_icmp .ne 7, 3) := by decide +kernel
theorem dX4_sheetsOfTwoSides_21 : decode cX4_sheetsOfTwoSides 21 = .ok (.iconst 1, 1) := by decide +kernel
theorem dX4_sheetsOfTwoSides_22 : decode cX4_sheetsOfTwoSides 22 = .ok (.goto 4, 3) := by decide +kernel
theorem dX4_sheetsOfTwoSides_25 : decode cX4_sheetsOfTwoSides 25 = .ok (.iconst 0, 1) := by decide +kernel
theorem dX4_sheetsOfTwoSides_26 : decode cX4_sheetsOfTwoSides 26 = .ok (.istore 4, 2) := by decide +kernel
theorem dX4_sheetsOfTwoSides_28 : decode cX4_sheetsOfTwoSides 28 = .ok (.iload_n 2, 1) := by decide +kernel
theorem dX4_sheetsOfTwoSides_29 : decode cX4_sheetsOfTwoSides 29 = .ok (.ifCond .eq 14, 3) := by decide +kernel
theorem dX4_sheetsOfTwoSides_32 : decode cX4_sheetsOfTwoSides 32 = .ok (.iload 4, 2) := by decide +kernel
theorem dX4_sheetsOfTwoSides_34 : decode cX4_sheetsOfTwoSides 34 = .ok (.ifCond .eq 9, 3) := by decide +kernel
theorem dX4_sheetsOfTwoSides_37 : decode cX4_sheetsOfTwoSides 37 = .ok (.iload_n 3, 1) := by decide +kernel
theorem dX4_sheetsOfTwoSides_38 : decode cX4_sheetsOfTwoSides 38 = .ok (.iconst 1, 1) := by decide +kernel
theorem dX4_sheetsOfTwoSides_39 : decode cX4_sheetsOfTwoSides 39 = .ok (.iadd, 1) := by decide +kernel
theorem dX4_sheetsOfTwoSides_40 : decode cX4_sheetsOfTwoSides 40 = .ok (.goto 4, 3) := by decide +kernel
theorem dX4_sheetsOfTwoSides_43 : decode cX4_sheetsOfTwoSides 43 = .ok (.iload_n 3, 1) := by decide +kernel
theorem dX4_sheetsOfTwoSides_44 : decode cX4_sheetsOfTwoSides 44 = .ok (.ireturn, 1) := by decide +kernel
theorem dX4_doubleLastPage_0 : decode cX4_doubleLastPage 0 = .ok (.aload_n 0, 1) := by decide +kernel
theorem dX4_doubleLastPage_1 : decode cX4_doubleLastPage 1 = .ok (.getfield 166, 3) := by decide +kernel
theorem dX4_doubleLastPage_4 : decode cX4_doubleLastPage 4 = .ok (.sipush 256, 3) := by decide +kernel
theorem dX4_doubleLastPage_7 : decode cX4_doubleLastPage 7 = .ok (.if_icmp .ge 53, 3) := by decide +kernel
theorem dX4_doubleLastPage_10 : decode cX4_doubleLastPage 10 = .ok (.aload_n 0, 1) := by decide +kernel
theorem dX4_doubleLastPage_11 : decode cX4_doubleLastPage 11 = .ok (.getfield 27, 3) := by decide +kernel
theorem dX4_doubleLastPage_14 : decode cX4_doubleLastPage 14 = .ok (.aload_n 0, 1) := by decide +kernel
theorem dX4_doubleLastPage_15 : decode cX4_doubleLastPage 15 = .ok (.getfield 166, 3) := by decide +kernel
theorem dX4_doubleLastPage_18 : decode cX4_doubleLastPage 18 = .ok (.aload_n 1, 1) := by decide +kernel
theorem dX4_doubleLastPage_19 : decode cX4_doubleLastPage 19 = .ok (.getfield 101, 3) := by decide +kernel
theorem dX4_doubleLastPage_22 : decode cX4_doubleLastPage 22 = .ok (.getfield 105, 3) := by decide +kernel
theorem dX4_doubleLastPage_25 : decode cX4_doubleLastPage 25 = .ok (.iastore, 1) := by decide +kernel
theorem dX4_doubleLastPage_26 : decode cX4_doubleLastPage 26 = .ok (.aload_n 0, 1) := by decide +kernel
theorem dX4_doubleLastPage_27 : decode cX4_doubleLastPage 27 = .ok (.getfield 31, 3) := by decide +kernel
theorem dX4_doubleLastPage_30 : decode cX4_doubleLastPage 30 = .ok (.aload_n 0, 1) := by decide +kernel
theorem dX4_doubleLastPage_31 : decode cX4_doubleLastPage 31 = .ok (.getfield 166, 3) := by decide +kernel
theorem dX4_doubleLastPage_34 : decode cX4_doubleLastPage 34 = .ok (.sipush 1000, 3) := by decide +kernel
theorem dX4_doubleLastPage_37 : decode cX4_doubleLastPage 37 = .ok (.aload_n 1, 1) := by decide +kernel
theorem dX4_doubleLastPage_38 : decode cX4_doubleLastPage 38 = .ok (.getfield 109, 3) := by decide +kernel
theorem dX4_doubleLastPage_41 : decode cX4_doubleLastPage 41 = .ok (.iconst 1, 1) := by decide +kernel
theorem dX4_doubleLastPage_42 : decode cX4_doubleLastPage 42 = .ok (.iadd, 1) := by decide +kernel
theorem dX4_doubleLastPage_43 : decode cX4_doubleLastPage 43 = .ok (.imul, 1) := by decide +kernel
theorem dX4_doubleLastPage_44 : decode cX4_doubleLastPage 44 = .ok (.aload_n 1, 1) := by decide +kernel
theorem dX4_doubleLastPage_45 : decode cX4_doubleLastPage 45 = .ok (.getfield 122, 3) := by decide +kernel
theorem dX4_doubleLastPage_48 : decode cX4_doubleLastPage 48 = .ok (.iadd, 1) := by decide +kernel
theorem dX4_doubleLastPage_49 : decode cX4_doubleLastPage 49 = .ok (.iastore, 1) := by decide +kernel
theorem dX4_doubleLastPage_50 : decode cX4_doubleLastPage 50 = .ok (.aload_n 0, 1) := by decide +kernel
theorem dX4_doubleLastPage_51 : decode cX4_doubleLastPage 51 = .ok (.dup, 1) := by decide +kernel
theorem dX4_doubleLastPage_52 : decode cX4_doubleLastPage 52 = .ok (.getfield 166, 3) := by decide +kernel
theorem dX4_doubleLastPage_55 : decode cX4_doubleLastPage 55 = .ok (.iconst 1, 1) := by decide +kernel
theorem dX4_doubleLastPage_56 : decode cX4_doubleLastPage 56 = .ok (.iadd, 1) := by decide +kernel
theorem dX4_doubleLastPage_57 : decode cX4_doubleLastPage 57 = .ok (.putfield 166, 3) := by decide +kernel
theorem dX4_doubleLastPage_60 : decode cX4_doubleLastPage 60 = .ok (.aload_n 1, 1) := by decide +kernel
theorem dX4_doubleLastPage_61 : decode cX4_doubleLastPage 61 = .ok (.dup, 1) := by decide +kernel
theorem dX4_doubleLastPage_62 : decode cX4_doubleLastPage 62 = .ok (.getfield 122, 3) := by decide +kernel
theorem dX4_doubleLastPage_65 : decode cX4_doubleLastPage 65 = .ok (.iconst 1, 1) := by decide +kernel
theorem dX4_doubleLastPage_66 : decode cX4_doubleLastPage 66 = .ok (.isub, 1) := by decide +kernel
theorem dX4_doubleLastPage_67 : decode cX4_doubleLastPage 67 = .ok (.putfield 122, 3) := by decide +kernel
theorem dX4_doubleLastPage_70 : decode cX4_doubleLastPage 70 = .ok (.aload_n 1, 1) := by decide +kernel
theorem dX4_doubleLastPage_71 : decode cX4_doubleLastPage 71 = .ok (.getfield 101, 3) := by decide +kernel
theorem dX4_doubleLastPage_74 : decode cX4_doubleLastPage 74 = .ok (.getfield 215, 3) := by decide +kernel
theorem dX4_doubleLastPage_77 : decode cX4_doubleLastPage 77 = .ok (.dup, 1) := by decide +kernel
theorem dX4_doubleLastPage_78 : decode cX4_doubleLastPage 78 = .ok (.getfield 178, 3) := by decide +kernel
theorem dX4_doubleLastPage_81 : decode cX4_doubleLastPage 81 = .ok (.lconst 1, 1) := by decide +kernel
theorem dX4_doubleLastPage_82 : decode cX4_doubleLastPage 82 = .ok (.ladd, 1) := by decide +kernel
theorem dX4_doubleLastPage_83 : decode cX4_doubleLastPage 83 = .ok (.putfield 178, 3) := by decide +kernel
theorem dX4_doubleLastPage_86 : decode cX4_doubleLastPage 86 = .ok (.return_, 1) := by decide +kernel
theorem dX4_emptyPrintersOf_0 : decode cX4_emptyPrintersOf 0 = .ok (.aload_n 0, 1) := by decide +kernel
theorem dX4_emptyPrintersOf_1 : decode cX4_emptyPrintersOf 1 = .ok (.getfield 11, 3) := by decide +kernel
theorem dX4_emptyPrintersOf_4 : decode cX4_emptyPrintersOf 4 = .ok (.astore_n 2, 1) := by decide +kernel
theorem dX4_emptyPrintersOf_5 : decode cX4_emptyPrintersOf 5 = .ok (.aload_n 2, 1) := by decide +kernel
theorem dX4_emptyPrintersOf_6 : decode cX4_emptyPrintersOf 6 = .ok (.arraylength, 1) := by decide +kernel
theorem dX4_emptyPrintersOf_7 : decode cX4_emptyPrintersOf 7 = .ok (.istore_n 3, 1) := by decide +kernel
theorem dX4_emptyPrintersOf_8 : decode cX4_emptyPrintersOf 8 = .ok (.iconst 0, 1) := by decide +kernel
theorem dX4_emptyPrintersOf_9 : decode cX4_emptyPrintersOf 9 = .ok (.istore 4, 2) := by decide +kernel
theorem dX4_emptyPrintersOf_11 : decode cX4_emptyPrintersOf 11 = .ok (.iload 4, 2) := by decide +kernel
theorem dX4_emptyPrintersOf_13 : decode cX4_emptyPrintersOf 13 = .ok (.iload_n 3, 1) := by decide +kernel
theorem dX4_emptyPrintersOf_14 : decode cX4_emptyPrintersOf 14 = .ok (.if_icmp .ge 46, 3) := by decide +kernel
theorem dX4_emptyPrintersOf_17 : decode cX4_emptyPrintersOf 17 = .ok (.aload_n 2, 1) := by decide +kernel
theorem dX4_emptyPrintersOf_18 : decode cX4_emptyPrintersOf 18 = .ok (.iload 4, 2) := by decide +kernel
theorem dX4_emptyPrintersOf_20 : decode cX4_emptyPrintersOf 20 = .ok (.aaload, 1) := by decide +kernel
theorem dX4_emptyPrintersOf_21 : decode cX4_emptyPrintersOf 21 = .ok (.astore 5, 2) := by decide +kernel
theorem dX4_emptyPrintersOf_23 : decode cX4_emptyPrintersOf 23 = .ok (.aload 5, 2) := by decide +kernel
theorem dX4_emptyPrintersOf_25 : decode cX4_emptyPrintersOf 25 = .ok (.ifnull 29, 3) := by decide +kernel
theorem dX4_emptyPrintersOf_28 : decode cX4_emptyPrintersOf 28 = .ok (.aload 5, 2) := by decide +kernel
theorem dX4_emptyPrintersOf_30 : decode cX4_emptyPrintersOf 30 = .ok (.getfield 87, 3) := by decide +kernel
theorem dX4_emptyPrintersOf_33 : decode cX4_emptyPrintersOf 33 = .ok (.ifnull 21, 3) := by decide +kernel
theorem dX4_emptyPrintersOf_36 : decode cX4_emptyPrintersOf 36 = .ok (.aload 5, 2) := by decide +kernel
theorem dX4_emptyPrintersOf_38 : decode cX4_emptyPrintersOf 38 = .ok (.getfield 87, 3) := by decide +kernel
theorem dX4_emptyPrintersOf_41 : decode cX4_emptyPrintersOf 41 = .ok (.getfield 101, 3) := by decide +kernel
theorem dX4_emptyPrintersOf_44 : decode cX4_emptyPrintersOf 44 = .ok (.aload_n 1, 1) := by decide +kernel
theorem dX4_emptyPrintersOf_45 : decode cX4_emptyPrintersOf 45 = .ok (.if_acmp .ne 9, 3) := by decide +kernel
theorem dX4_emptyPrintersOf_48 : decode cX4_emptyPrintersOf 48 = .ok (.aload 5, 2) := by decide +kernel
theorem dX4_emptyPrintersOf_50 : decode cX4_emptyPrintersOf 50 = .ok (.aconst_null, 1) := by decide +kernel
theorem dX4_emptyPrintersOf_51 : decode cX4_emptyPrintersOf 51 = .ok (.putfield 87, 3) := by decide +kernel
theorem dX4_emptyPrintersOf_54 : decode cX4_emptyPrintersOf 54 = .ok (.iinc 4 1, 3) := by decide +kernel
theorem dX4_emptyPrintersOf_57 : decode cX4_emptyPrintersOf 57 = .ok (.goto (-46), 3) := by decide +kernel
theorem dX4_emptyPrintersOf_60 : decode cX4_emptyPrintersOf 60 = .ok (.return_, 1) := by decide +kernel
set_option maxRecDepth 20000 in
theorem ggX4_reasonByPrinters_X4_firstPartFor : GoodIn wsX4_reasonByPrinters wsX4_firstPartFor := goodIn_r _ [6, 7, 8, 9, 10, 11, 12, 13, 14, 15, 16, 17, 18, 19, 20, 38, 39, 40, 41, 42, 43, 44, 45, 46, 47, 48, 49, 50, 51, 52, 32, 33, 34, 35, 36, 37, 53, 54, 55, 56, 57, 58] (by decide +kernel) (by decide +kernel)
set_option maxRecDepth 20000 in
theorem gX4_reasonByPrinters_X4_firstPartFor : GoodIn wsX4_reasonByPrinters (va_wsS RX4 200 yX4_firstPartFor wsX4_firstPartFor) := goodIn_app (goodIn_of _ (by decide +kernel)) ggX4_reasonByPrinters_X4_firstPartFor
theorem dX4_reasonByPrinters_0 : decode cX4_reasonByPrinters 0 = .ok (.iconst 0, 1) := by decide +kernel
theorem dX4_reasonByPrinters_1 : decode cX4_reasonByPrinters 1 = .ok (.istore_n 2, 1) := by decide +kernel
theorem dX4_reasonByPrinters_2 : decode cX4_reasonByPrinters 2 = .ok (.aload_n 0, 1) := by decide +kernel
theorem dX4_reasonByPrinters_3 : decode cX4_reasonByPrinters 3 = .ok (.getfield 11, 3) := by decide +kernel
theorem dX4_reasonByPrinters_6 : decode cX4_reasonByPrinters 6 = .ok (.astore_n 3, 1) := by decide +kernel
theorem dX4_reasonByPrinters_7 : decode cX4_reasonByPrinters 7 = .ok (.aload_n 3, 1) := by decide +kernel
theorem dX4_reasonByPrinters_8 : decode cX4_reasonByPrinters 8 = .ok (.arraylength, 1) := by decide +kernel
theorem dX4_reasonByPrinters_9 : decode cX4_reasonByPrinters 9 = .ok (.istore 4, 2) := by decide +kernel
theorem dX4_reasonByPrinters_11 : decode cX4_reasonByPrinters 11 = .ok (.iconst 0, 1) := by decide +kernel
theorem dX4_reasonByPrinters_12 : decode cX4_reasonByPrinters 12 = .ok (.istore 5, 2) := by decide +kernel
theorem dX4_reasonByPrinters_14 : decode cX4_reasonByPrinters 14 = .ok (.iload 5, 2) := by decide +kernel
theorem dX4_reasonByPrinters_16 : decode cX4_reasonByPrinters 16 = .ok (.iload 4, 2) := by decide +kernel
theorem dX4_reasonByPrinters_18 : decode cX4_reasonByPrinters 18 = .ok (.if_icmp .ge 41, 3) := by decide +kernel
theorem dX4_reasonByPrinters_21 : decode cX4_reasonByPrinters 21 = .ok (.aload_n 3, 1) := by decide +kernel
theorem dX4_reasonByPrinters_22 : decode cX4_reasonByPrinters 22 = .ok (.iload 5, 2) := by decide +kernel
theorem dX4_reasonByPrinters_24 : decode cX4_reasonByPrinters 24 = .ok (.aaload, 1) := by decide +kernel
theorem dX4_reasonByPrinters_25 : decode cX4_reasonByPrinters 25 = .ok (.astore 6, 2) := by decide +kernel
theorem dX4_reasonByPrinters_27 : decode cX4_reasonByPrinters 27 = .ok (.aload 6, 2) := by decide +kernel
theorem dX4_reasonByPrinters_29 : decode cX4_reasonByPrinters 29 = .ok (.ifnull 24, 3) := by decide +kernel
theorem dX4_reasonByPrinters_32 : decode cX4_reasonByPrinters 32 = .ok (.aload_n 1, 1) := by decide +kernel
theorem dX4_reasonByPrinters_33 : decode cX4_reasonByPrinters 33 = .ok (.aload 6, 2) := by decide +kernel
theorem dX4_reasonByPrinters_35 : decode cX4_reasonByPrinters 35 = .ok (.invokestatic 200, 3) := by decide +kernel
theorem dX4_reasonByPrinters_38 : decode cX4_reasonByPrinters 38 = .ok (.ifnull 15, 3) := by decide +kernel
theorem dX4_reasonByPrinters_41 : decode cX4_reasonByPrinters 41 = .ok (.aload 6, 2) := by decide +kernel
theorem dX4_reasonByPrinters_43 : decode cX4_reasonByPrinters 43 = .ok (.getfield 87, 3) := by decide +kernel
theorem dX4_reasonByPrinters_46 : decode cX4_reasonByPrinters 46 = .ok (.ifnonnull 5, 3) := by decide +kernel
theorem dX4_reasonByPrinters_49 : decode cX4_reasonByPrinters 49 = .ok (.iconst 5, 1) := by decide +kernel
theorem dX4_reasonByPrinters_50 : decode cX4_reasonByPrinters 50 = .ok (.ireturn, 1) := by decide +kernel
theorem dX4_reasonByPrinters_51 : decode cX4_reasonByPrinters 51 = .ok (.iconst 1, 1) := by decide +kernel
theorem dX4_reasonByPrinters_52 : decode cX4_reasonByPrinters 52 = .ok (.istore_n 2, 1) := by decide +kernel
theorem dX4_reasonByPrinters_53 : decode cX4_reasonByPrinters 53 = .ok (.iinc 5 1, 3) := by decide +kernel
theorem dX4_reasonByPrinters_56 : decode cX4_reasonByPrinters 56 = .ok (.goto (-42), 3) := by decide +kernel
theorem dX4_reasonByPrinters_59 : decode cX4_reasonByPrinters 59 = .ok (.iload_n 2, 1) := by decide +kernel
theorem dX4_reasonByPrinters_60 : decode cX4_reasonByPrinters 60 = .ok (.ifCond .eq 7, 3) := by decide +kernel
theorem dX4_reasonByPrinters_63 : decode cX4_reasonByPrinters 63 = .ok (.iconst 4, 1) := by decide +kernel
theorem dX4_reasonByPrinters_64 : decode cX4_reasonByPrinters 64 = .ok (.goto 4, 3) := by decide +kernel
theorem dX4_reasonByPrinters_67 : decode cX4_reasonByPrinters 67 = .ok (.iconst 3, 1) := by decide +kernel
theorem dX4_reasonByPrinters_68 : decode cX4_reasonByPrinters 68 = .ok (.ireturn, 1) := by decide +kernel
set_option maxRecDepth 20000 in
theorem ggX4_canLose_X1_untouchedCopies : GoodIn wsX4_canLose wsX1_untouchedCopies := goodIn_r _ [7, 8, 9, 10, 11, 12, 13, 14, 15, 16, 17] (by decide +kernel) (by decide +kernel)
set_option maxRecDepth 20000 in
theorem gX4_canLose_X1_untouchedCopies : GoodIn wsX4_canLose (wsV RX4 252 RX1 yX1_untouchedCopies wsX1_untouchedCopies) := goodIn_app (goodIn_of _ (by decide +kernel)) ggX4_canLose_X1_untouchedCopies
theorem dX4_canLose_0 : decode cX4_canLose 0 = .ok (.aload_n 0, 1) := by decide +kernel
theorem dX4_canLose_1 : decode cX4_canLose 1 = .ok (.getfield 119, 3) := by decide +kernel
theorem dX4_canLose_4 : decode cX4_canLose 4 = .ok (.ifCond .ne 22, 3) := by decide +kernel
theorem dX4_canLose_7 : decode cX4_canLose 7 = .ok (.aload_n 0, 1) := by decide +kernel
theorem dX4_canLose_8 : decode cX4_canLose 8 = .ok (.getfield 249, 3) := by decide +kernel
theorem dX4_canLose_11 : decode cX4_canLose 11 = .ok (.ifCond .ne 15, 3) := by decide +kernel
theorem dX4_canLose_14 : decode cX4_canLose 14 = .ok (.aload_n 0, 1) := by decide +kernel
theorem dX4_canLose_15 : decode cX4_canLose 15 = .ok (.invokevirtual 252, 3) := by decide +kernel
theorem dX4_canLose_18 : decode cX4_canLose 18 = .ok (.iload_n 1, 1) := by decide +kernel
theorem dX4_canLose_19 : decode cX4_canLose 19 = .ok (.if_icmp .le 7, 3) := by decide +kernel
theorem dX4_canLose_22 : decode cX4_canLose 22 = .ok (.iconst 1, 1) := by decide +kernel
theorem dX4_canLose_23 : decode cX4_canLose 23 = .ok (.goto 4, 3) := by decide +kernel
theorem dX4_canLose_26 : decode cX4_canLose 26 = .ok (.iconst 0, 1) := by decide +kernel
theorem dX4_canLose_27 : decode cX4_canLose 27 = .ok (.ireturn, 1) := by decide +kernel
theorem dJ9_min_7cf53_0 : decode cJ9_min_7cf53 0 = .ok (.iload_n 0, 1) := by decide +kernel
theorem dJ9_min_7cf53_1 : decode cJ9_min_7cf53 1 = .ok (.iload_n 1, 1) := by decide +kernel
theorem dJ9_min_7cf53_2 : decode cJ9_min_7cf53 2 = .ok (.if_icmp .gt 7, 3) := by decide +kernel
theorem dJ9_min_7cf53_5 : decode cJ9_min_7cf53 5 = .ok (.iload_n 0, 1) := by decide +kernel
theorem dJ9_min_7cf53_6 : decode cJ9_min_7cf53 6 = .ok (.goto 4, 3) := by decide +kernel
theorem dJ9_min_7cf53_9 : decode cJ9_min_7cf53 9 = .ok (.iload_n 1, 1) := by decide +kernel
theorem dJ9_min_7cf53_10 : decode cJ9_min_7cf53 10 = .ok (.ireturn, 1) := by decide +kernel
