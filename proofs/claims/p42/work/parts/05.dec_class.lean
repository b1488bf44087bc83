theorem dX0_init_0 : decode cX0_init 0 = .ok (.aload_n 0, 1) := by decide +kernel
theorem dX0_init_1 : decode cX0_init 1 = .ok (.invokespecial 3, 3) := by decide +kernel
theorem dX0_init_4 : decode cX0_init 4 = .ok (.aload_n 0, 1) := by decide +kernel
theorem dX0_init_5 : decode cX0_init 5 = .ok (.bipush 32, 2) := by decide +kernel
theorem dX0_init_7 : decode cX0_init 7 = .ok (.putfield 11, 3) := by decide +kernel
theorem dX0_init_10 : decode cX0_init 10 = .ok (.return_, 1) := by decide +kernel
theorem dX1_init_0 : decode cX1_init 0 = .ok (.aload_n 0, 1) := by decide +kernel
theorem dX1_init_1 : decode cX1_init 1 = .ok (.invokespecial 3, 3) := by decide +kernel
theorem dX1_init_4 : decode cX1_init 4 = .ok (.aload_n 0, 1) := by decide +kernel
theorem dX1_init_5 : decode cX1_init 5 = .ok (.bipush 60, 2) := by decide +kernel
theorem dX1_init_7 : decode cX1_init 7 = .ok (.newarray .char, 2) := by decide +kernel
theorem dX1_init_9 : decode cX1_init 9 = .ok (.putfield 9, 3) := by decide +kernel
theorem dX1_init_12 : decode cX1_init 12 = .ok (.aload_n 0, 1) := by decide +kernel
theorem dX1_init_13 : decode cX1_init 13 = .ok (.new 15, 3) := by decide +kernel
theorem dX1_init_16 : decode cX1_init 16 = .ok (.dup, 1) := by decide +kernel
theorem dX1_init_17 : decode cX1_init 17 = .ok (.invokespecial 17, 3) := by decide +kernel
theorem dX1_init_20 : decode cX1_init 20 = .ok (.putfield 18, 3) := by decide +kernel
theorem dX1_init_23 : decode cX1_init 23 = .ok (.return_, 1) := by decide +kernel
theorem dX2_init_0 : decode cX2_init 0 = .ok (.aload_n 0, 1) := by decide +kernel
theorem dX2_init_1 : decode cX2_init 1 = .ok (.invokespecial 3, 3) := by decide +kernel
theorem dX2_init_4 : decode cX2_init 4 = .ok (.aload_n 0, 1) := by decide +kernel
theorem dX2_init_5 : decode cX2_init 5 = .ok (.iconst 4, 1) := by decide +kernel
theorem dX2_init_6 : decode cX2_init 6 = .ok (.newarray .int, 2) := by decide +kernel
theorem dX2_init_8 : decode cX2_init 8 = .ok (.putfield 9, 3) := by decide +kernel
theorem dX2_init_11 : decode cX2_init 11 = .ok (.aload_n 0, 1) := by decide +kernel
theorem dX2_init_12 : decode cX2_init 12 = .ok (.iconst 3, 1) := by decide +kernel
theorem dX2_init_13 : decode cX2_init 13 = .ok (.newarray .int, 2) := by decide +kernel
theorem dX2_init_15 : decode cX2_init 15 = .ok (.dup, 1) := by decide +kernel
theorem dX2_init_16 : decode cX2_init 16 = .ok (.iconst 0, 1) := by decide +kernel
theorem dX2_init_17 : decode cX2_init 17 = .ok (.bipush 10, 2) := by decide +kernel
theorem dX2_init_19 : decode cX2_init 19 = .ok (.iastore, 1) := by decide +kernel
theorem dX2_init_20 : decode cX2_init 20 = .ok (.dup, 1) := by decide +kernel
theorem dX2_init_21 : decode cX2_init 21 = .ok (.iconst 1, 1) := by decide +kernel
theorem dX2_init_22 : decode cX2_init 22 = .ok (.bipush 30, 2) := by decide +kernel
theorem dX2_init_24 : decode cX2_init 24 = .ok (.iastore, 1) := by decide +kernel
theorem dX2_init_25 : decode cX2_init 25 = .ok (.dup, 1) := by decide +kernel
theorem dX2_init_26 : decode cX2_init 26 = .ok (.iconst 2, 1) := by decide +kernel
theorem dX2_init_27 : decode cX2_init 27 = .ok (.iconst 0, 1) := by decide +kernel
theorem dX2_init_28 : decode cX2_init 28 = .ok (.iastore, 1) := by decide +kernel
theorem dX2_init_29 : decode cX2_init 29 = .ok (.putfield 15, 3) := by decide +kernel
theorem dX2_init_32 : decode cX2_init 32 = .ok (.aload_n 0, 1) := by decide +kernel
theorem dX2_init_33 : decode cX2_init 33 = .ok (.bipush 8, 2) := by decide +kernel
theorem dX2_init_35 : decode cX2_init 35 = .ok (.newarray .int, 2) := by decide +kernel
theorem dX2_init_37 : decode cX2_init 37 = .ok (.putfield 18, 3) := by decide +kernel
theorem dX2_init_40 : decode cX2_init 40 = .ok (.aload_n 0, 1) := by decide +kernel
theorem dX2_init_41 : decode cX2_init 41 = .ok (.aload_n 1, 1) := by decide +kernel
theorem dX2_init_42 : decode cX2_init 42 = .ok (.putfield 21, 3) := by decide +kernel
theorem dX2_init_45 : decode cX2_init 45 = .ok (.aload_n 0, 1) := by decide +kernel
theorem dX2_init_46 : decode cX2_init 46 = .ok (.aload_n 2, 1) := by decide +kernel
theorem dX2_init_47 : decode cX2_init 47 = .ok (.putfield 25, 3) := by decide +kernel
theorem dX2_init_50 : decode cX2_init 50 = .ok (.aload_n 0, 1) := by decide +kernel
theorem dX2_init_51 : decode cX2_init 51 = .ok (.aload_n 1, 1) := by decide +kernel
theorem dX2_init_52 : decode cX2_init 52 = .ok (.getfield 29, 3) := by decide +kernel
theorem dX2_init_55 : decode cX2_init 55 = .ok (.putfield 35, 3) := by decide +kernel
theorem dX2_init_58 : decode cX2_init 58 = .ok (.return_, 1) := by decide +kernel
theorem dX2_setting_0 : decode cX2_setting 0 = .ok (.iload_n 1, 1) := by decide +kernel
theorem dX2_setting_1 : decode cX2_setting 1 = .ok (.ifCond .lt 21, 3) := by decide +kernel
theorem dX2_setting_4 : decode cX2_setting 4 = .ok (.iload_n 1, 1) := by decide +kernel
theorem dX2_setting_5 : decode cX2_setting 5 = .ok (.aload_n 0, 1) := by decide +kernel
theorem dX2_setting_6 : decode cX2_setting 6 = .ok (.getfield 15, 3) := by decide +kernel
theorem dX2_setting_9 : decode cX2_setting 9 = .ok (.arraylength, 1) := by decide +kernel
theorem dX2_setting_10 : decode cX2_setting 10 = .ok (.if_icmp .ge 12, 3) := by decide +kernel
theorem dX2_setting_13 : decode cX2_setting 13 = .ok (.aload_n 0, 1) := by decide +kernel
theorem dX2_setting_14 : decode cX2_setting 14 = .ok (.getfield 15, 3) := by decide +kernel
theorem dX2_setting_17 : decode cX2_setting 17 = .ok (.iload_n 1, 1) := by decide +kernel
theorem dX2_setting_18 : decode cX2_setting 18 = .ok (.iaload, 1) := by decide +kernel
theorem dX2_setting_19 : decode cX2_setting 19 = .ok (.goto 4, 3) := by decide +kernel
theorem dX2_setting_22 : decode cX2_setting 22 = .ok (.iconst 0, 1) := by decide +kernel
theorem dX2_setting_23 : decode cX2_setting 23 = .ok (.ireturn, 1) := by decide +kernel
theorem dX2_changeSetting_0 : decode cX2_changeSetting 0 = .ok (.iload_n 1, 1) := by decide +kernel
theorem dX2_changeSetting_1 : decode cX2_changeSetting 1 = .ok (.ifCond .lt 19, 3) := by decide +kernel
theorem dX2_changeSetting_4 : decode cX2_changeSetting 4 = .ok (.iload_n 1, 1) := by decide +kernel
theorem dX2_changeSetting_5 : decode cX2_changeSetting 5 = .ok (.aload_n 0, 1) := by decide +kernel
theorem dX2_changeSetting_6 : decode cX2_changeSetting 6 = .ok (.getfield 15, 3) := by decide +kernel
theorem dX2_changeSetting_9 : decode cX2_changeSetting 9 = .ok (.arraylength, 1) := by decide +kernel
theorem dX2_changeSetting_10 : decode cX2_changeSetting 10 = .ok (.if_icmp .ge 10, 3) := by decide +kernel
theorem dX2_changeSetting_13 : decode cX2_changeSetting 13 = .ok (.aload_n 0, 1) := by decide +kernel
theorem dX2_changeSetting_14 : decode cX2_changeSetting 14 = .ok (.getfield 15, 3) := by decide +kernel
theorem dX2_changeSetting_17 : decode cX2_changeSetting 17 = .ok (.iload_n 1, 1) := by decide +kernel
theorem dX2_changeSetting_18 : decode cX2_changeSetting 18 = .ok (.iload_n 2, 1) := by decide +kernel
theorem dX2_changeSetting_19 : decode cX2_changeSetting 19 = .ok (.iastore, 1) := by decide +kernel
theorem dX2_changeSetting_20 : decode cX2_changeSetting 20 = .ok (.return_, 1) := by decide +kernel
theorem dX2_counted_0 : decode cX2_counted 0 = .ok (.iload_n 1, 1) := by decide +kernel
theorem dX2_counted_1 : decode cX2_counted 1 = .ok (.ifCond .lt 21, 3) := by decide +kernel
theorem dX2_counted_4 : decode cX2_counted 4 = .ok (.iload_n 1, 1) := by decide +kernel
theorem dX2_counted_5 : decode cX2_counted 5 = .ok (.aload_n 0, 1) := by decide +kernel
theorem dX2_counted_6 : decode cX2_counted 6 = .ok (.getfield 18, 3) := by decide +kernel
theorem dX2_counted_9 : decode cX2_counted 9 = .ok (.arraylength, 1) := by decide +kernel
theorem dX2_counted_10 : decode cX2_counted 10 = .ok (.if_icmp .ge 12, 3) := by decide +kernel
theorem dX2_counted_13 : decode cX2_counted 13 = .ok (.aload_n 0, 1) := by decide +kernel
theorem dX2_counted_14 : decode cX2_counted 14 = .ok (.getfield 18, 3) := by decide +kernel
theorem dX2_counted_17 : decode cX2_counted 17 = .ok (.iload_n 1, 1) := by decide +kernel
theorem dX2_counted_18 : decode cX2_counted 18 = .ok (.iaload, 1) := by decide +kernel
theorem dX2_counted_19 : decode cX2_counted 19 = .ok (.goto 4, 3) := by decide +kernel
theorem dX2_counted_22 : decode cX2_counted 22 = .ok (.iconst 0, 1) := by decide +kernel
theorem dX2_counted_23 : decode cX2_counted 23 = .ok (.ireturn, 1) := by decide +kernel
theorem dX2_count_0 : decode cX2_count 0 = .ok (.iload_n 1, 1) := by decide +kernel
theorem dX2_count_1 : decode cX2_count 1 = .ok (.ifCond .lt 22, 3) := by decide +kernel
theorem dX2_count_4 : decode cX2_count 4 = .ok (.iload_n 1, 1) := by decide +kernel
theorem dX2_count_5 : decode cX2_count 5 = .ok (.aload_n 0, 1) := by decide +kernel
theorem dX2_count_6 : decode cX2_count 6 = .ok (.getfield 18, 3) := by decide +kernel
theorem dX2_count_9 : decode cX2_count 9 = .ok (.arraylength, 1) := by decide +kernel
theorem dX2_count_10 : decode cX2_count 10 = .ok (.if_icmp .ge 13, 3) := by decide +kernel
theorem dX2_count_13 : decode cX2_count 13 = .ok (.aload_n 0, 1) := by decide +kernel
theorem dX2_count_14 : decode cX2_count 14 = .ok (.getfield 18, 3) := by decide +kernel
theorem dX2_count_17 : decode cX2_count 17 = .ok (.iload_n 1, 1) := by decide +kernel
theorem dX2_count_18 : decode cX2_count 18 = .ok (.dup2, 1) := by decide +kernel
theorem dX2_count_19 : decode cX2_count 19 = .ok (.iaload, 1) := by decide +kernel
theorem dX2_count_20 : decode cX2_count 20 = .ok (.iload_n 2, 1) := by decide +kernel
theorem dX2_count_21 : decode cX2_count 21 = .ok (.iadd, 1) := by decide +kernel
theorem dX2_count_22 : decode cX2_count 22 = .ok (.iastore, 1) := by decide +kernel
theorem dX2_count_23 : decode cX2_count 23 = .ok (.return_, 1) := by decide +kernel
theorem dX2_digit_0 : decode cX2_digit 0 = .ok (.iload_n 1, 1) := by decide +kernel
theorem dX2_digit_1 : decode cX2_digit 1 = .ok (.ifCond .lt 21, 3) := by decide +kernel
theorem dX2_digit_4 : decode cX2_digit 4 = .ok (.iload_n 1, 1) := by decide +kernel
theorem dX2_digit_5 : decode cX2_digit 5 = .ok (.aload_n 0, 1) := by decide +kernel
theorem dX2_digit_6 : decode cX2_digit 6 = .ok (.getfield 9, 3) := by decide +kernel
theorem dX2_digit_9 : decode cX2_digit 9 = .ok (.arraylength, 1) := by decide +kernel
theorem dX2_digit_10 : decode cX2_digit 10 = .ok (.if_icmp .ge 12, 3) := by decide +kernel
theorem dX2_digit_13 : decode cX2_digit 13 = .ok (.aload_n 0, 1) := by decide +kernel
theorem dX2_digit_14 : decode cX2_digit 14 = .ok (.getfield 9, 3) := by decide +kernel
theorem dX2_digit_17 : decode cX2_digit 17 = .ok (.iload_n 1, 1) := by decide +kernel
theorem dX2_digit_18 : decode cX2_digit 18 = .ok (.iaload, 1) := by decide +kernel
theorem dX2_digit_19 : decode cX2_digit 19 = .ok (.goto 4, 3) := by decide +kernel
theorem dX2_digit_22 : decode cX2_digit 22 = .ok (.iconst 0, 1) := by decide +kernel
theorem dX2_digit_23 : decode cX2_digit 23 = .ok (.ireturn, 1) := by decide +kernel
theorem dX2_changeDigit_0 : decode cX2_changeDigit 0 = .ok (.iload_n 1, 1) := by decide +kernel
theorem dX2_changeDigit_1 : decode cX2_changeDigit 1 = .ok (.ifCond .lt 19, 3) := by decide +kernel
theorem dX2_changeDigit_4 : decode cX2_changeDigit 4 = .ok (.iload_n 1, 1) := by decide +kernel
theorem dX2_changeDigit_5 : decode cX2_changeDigit 5 = .ok (.aload_n 0, 1) := by decide +kernel
theorem dX2_changeDigit_6 : decode cX2_changeDigit 6 = .ok (.getfield 9, 3) := by decide +kernel
theorem dX2_changeDigit_9 : decode cX2_changeDigit 9 = .ok (.arraylength, 1) := by decide +kernel
theorem dX2_changeDigit_10 : decode cX2_changeDigit 10 = .ok (.if_icmp .ge 10, 3) := by decide +kernel
theorem dX2_changeDigit_13 : decode cX2_changeDigit 13 = .ok (.aload_n 0, 1) := by decide +kernel
theorem dX2_changeDigit_14 : decode cX2_changeDigit 14 = .ok (.getfield 9, 3) := by decide +kernel
theorem dX2_changeDigit_17 : decode cX2_changeDigit 17 = .ok (.iload_n 1, 1) := by decide +kernel
theorem dX2_changeDigit_18 : decode cX2_changeDigit 18 = .ok (.iload_n 2, 1) := by decide +kernel
theorem dX2_changeDigit_19 : decode cX2_changeDigit 19 = .ok (.iastore, 1) := by decide +kernel
theorem dX2_changeDigit_20 : decode cX2_changeDigit 20 = .ok (.return_, 1) := by decide +kernel
theorem dX2_chosenItem_0 : decode cX2_chosenItem 0 = .ok (.aload_n 0, 1) := by decide +kernel
theorem dX2_chosenItem_1 : decode cX2_chosenItem 1 = .ok (.getfield 35, 3) := by decide +kernel
theorem dX2_chosenItem_4 : decode cX2_chosenItem 4 = .ok (.aload_n 0, 1) := by decide +kernel
theorem dX2_chosenItem_5 : decode cX2_chosenItem 5 = .ok (.getfield 38, 3) := by decide +kernel
theorem dX2_chosenItem_8 : decode cX2_chosenItem 8 = .ok (.invokevirtual 42, 3) := by decide +kernel
theorem dX2_chosenItem_11 : decode cX2_chosenItem 11 = .ok (.areturn, 1) := by decide +kernel
theorem dX2_atHome_0 : decode cX2_atHome 0 = .ok (.aload_n 0, 1) := by decide +kernel
theorem dX2_atHome_1 : decode cX2_atHome 1 = .ok (.getfield 48, 3) := by decide +kernel
theorem dX2_atHome_4 : decode cX2_atHome 4 = .ok (.ifCond .ne 14, 3) := by decide +kernel
theorem dX2_atHome_7 : decode cX2_atHome 7 = .ok (.aload_n 0, 1) := by decide +kernel
theorem dX2_atHome_8 : decode cX2_atHome 8 = .ok (.invokevirtual 51, 3) := by decide +kernel
theorem dX2_atHome_11 : decode cX2_atHome 11 = .ok (.ifCond .eq 7, 3) := by decide +kernel
theorem dX2_atHome_14 : decode cX2_atHome 14 = .ok (.iconst 1, 1) := by decide +kernel
theorem dX2_atHome_15 : decode cX2_atHome 15 = .ok (.goto 4, 3) := by decide +kernel
theorem dX2_atHome_18 : decode cX2_atHome 18 = .ok (.iconst 0, 1) := by decide +kernel
theorem dX2_atHome_19 : decode cX2_atHome 19 = .ok (.ireturn, 1) := by decide +kernel
theorem dX2_wouldBeHomeBrowsing_0 : decode cX2_wouldBeHomeBrowsing 0 = .ok (.aload_n 0, 1) := by decide +kernel
theorem dX2_wouldBeHomeBrowsing_1 : decode cX2_wouldBeHomeBrowsing 1 = .ok (.getfield 35, 3) := by decide +kernel
theorem dX2_wouldBeHomeBrowsing_4 : decode cX2_wouldBeHomeBrowsing 4 = .ok (.aload_n 0, 1) := by decide +kernel
theorem dX2_wouldBeHomeBrowsing_5 : decode cX2_wouldBeHomeBrowsing 5 = .ok (.getfield 21, 3) := by decide +kernel
theorem dX2_wouldBeHomeBrowsing_8 : decode cX2_wouldBeHomeBrowsing 8 = .ok (.getfield 29, 3) := by decide +kernel
theorem dX2_wouldBeHomeBrowsing_11 : decode cX2_wouldBeHomeBrowsing 11 = .ok (.if_acmp .ne 24, 3) := by decide +kernel
theorem dX2_wouldBeHomeBrowsing_14 : decode cX2_wouldBeHomeBrowsing 14 = .ok (.aload_n 0, 1) := by decide +kernel
theorem dX2_wouldBeHomeBrowsing_15 : decode cX2_wouldBeHomeBrowsing 15 = .ok (.getfield 38, 3) := by decide +kernel
theorem dX2_wouldBeHomeBrowsing_18 : decode cX2_wouldBeHomeBrowsing 18 = .ok (.ifCond .ne 17, 3) := by decide +kernel
theorem dX2_wouldBeHomeBrowsing_21 : decode cX2_wouldBeHomeBrowsing 21 = .ok (.aload_n 0, 1) := by decide +kernel
theorem dX2_wouldBeHomeBrowsing_22 : decode cX2_wouldBeHomeBrowsing 22 = .ok (.getfield 21, 3) := by decide +kernel
theorem dX2_wouldBeHomeBrowsing_25 : decode cX2_wouldBeHomeBrowsing 25 = .ok (.invokevirtual 55, 3) := by decide +kernel
theorem dX2_wouldBeHomeBrowsing_28 : decode cX2_wouldBeHomeBrowsing 28 = .ok (.ifCond .ne 7, 3) := by decide +kernel
theorem dX2_wouldBeHomeBrowsing_31 : decode cX2_wouldBeHomeBrowsing 31 = .ok (.iconst 1, 1) := by decide +kernel
theorem dX2_wouldBeHomeBrowsing_32 : decode cX2_wouldBeHomeBrowsing 32 = .ok (.goto 4, 3) := by decide +kernel
theorem dX2_wouldBeHomeBrowsing_35 : decode cX2_wouldBeHomeBrowsing 35 = .ok (.iconst 0, 1) := by decide +kernel
theorem dX2_wouldBeHomeBrowsing_36 : decode cX2_wouldBeHomeBrowsing 36 = .ok (.ireturn, 1) := by decide +kernel
theorem dX2_goHome_0 : decode cX2_goHome 0 = .ok (.aload_n 0, 1) := by decide +kernel
theorem dX2_goHome_1 : decode cX2_goHome 1 = .ok (.iconst 0, 1) := by decide +kernel
theorem dX2_goHome_2 : decode cX2_goHome 2 = .ok (.putfield 48, 3) := by decide +kernel
theorem dX2_goHome_5 : decode cX2_goHome 5 = .ok (.aload_n 0, 1) := by decide +kernel
theorem dX2_goHome_6 : decode cX2_goHome 6 = .ok (.aload_n 0, 1) := by decide +kernel
theorem dX2_goHome_7 : decode cX2_goHome 7 = .ok (.getfield 21, 3) := by decide +kernel
theorem dX2_goHome_10 : decode cX2_goHome 10 = .ok (.getfield 29, 3) := by decide +kernel
theorem dX2_goHome_13 : decode cX2_goHome 13 = .ok (.putfield 35, 3) := by decide +kernel
theorem dX2_goHome_16 : decode cX2_goHome 16 = .ok (.aload_n 0, 1) := by decide +kernel
theorem dX2_goHome_17 : decode cX2_goHome 17 = .ok (.iconst 0, 1) := by decide +kernel
theorem dX2_goHome_18 : decode cX2_goHome 18 = .ok (.putfield 38, 3) := by decide +kernel
theorem dX2_goHome_21 : decode cX2_goHome 21 = .ok (.aload_n 0, 1) := by decide +kernel
theorem dX2_goHome_22 : decode cX2_goHome 22 = .ok (.getfield 21, 3) := by decide +kernel
theorem dX2_goHome_25 : decode cX2_goHome 25 = .ok (.invokevirtual 58, 3) := by decide +kernel
theorem dX2_goHome_28 : decode cX2_goHome 28 = .ok (.return_, 1) := by decide +kernel
theorem dX2_turnBy_0 : decode cX2_turnBy 0 = .ok (.aload_n 0, 1) := by decide +kernel
theorem dX2_turnBy_1 : decode cX2_turnBy 1 = .ok (.iload_n 1, 1) := by decide +kernel
theorem dX2_turnBy_2 : decode cX2_turnBy 2 = .ok (.invokevirtual 61, 3) := by decide +kernel
theorem dX2_turnBy_5 : decode cX2_turnBy 5 = .ok (.istore_n 2, 1) := by decide +kernel
theorem dX2_turnBy_6 : decode cX2_turnBy 6 = .ok (.aload_n 0, 1) := by decide +kernel
theorem dX2_turnBy_7 : decode cX2_turnBy 7 = .ok (.getfield 48, 3) := by decide +kernel
theorem dX2_turnBy_10 : decode cX2_turnBy 10 = .ok (.iconst 1, 1) := by decide +kernel
theorem dX2_turnBy_11 : decode cX2_turnBy 11 = .ok (.if_icmp .ne 11, 3) := by decide +kernel
theorem dX2_turnBy_14 : decode cX2_turnBy 14 = .ok (.aload_n 0, 1) := by decide +kernel
theorem dX2_turnBy_15 : decode cX2_turnBy 15 = .ok (.iload_n 2, 1) := by decide +kernel
theorem dX2_turnBy_16 : decode cX2_turnBy 16 = .ok (.putfield 65, 3) := by decide +kernel
theorem dX2_turnBy_19 : decode cX2_turnBy 19 = .ok (.goto 28, 3) := by decide +kernel
theorem dX2_turnBy_22 : decode cX2_turnBy 22 = .ok (.aload_n 0, 1) := by decide +kernel
theorem dX2_turnBy_23 : decode cX2_turnBy 23 = .ok (.getfield 48, 3) := by decide +kernel
theorem dX2_turnBy_26 : decode cX2_turnBy 26 = .ok (.iconst 2, 1) := by decide +kernel
theorem dX2_turnBy_27 : decode cX2_turnBy 27 = .ok (.if_icmp .ne 15, 3) := by decide +kernel
theorem dX2_turnBy_30 : decode cX2_turnBy 30 = .ok (.aload_n 0, 1) := by decide +kernel
theorem dX2_turnBy_31 : decode cX2_turnBy 31 = .ok (.aload_n 0, 1) := by decide +kernel
theorem dX2_turnBy_32 : decode cX2_turnBy 32 = .ok (.getfield 68, 3) := by decide +kernel
theorem dX2_turnBy_35 : decode cX2_turnBy 35 = .ok (.iload_n 2, 1) := by decide +kernel
theorem dX2_turnBy_36 : decode cX2_turnBy 36 = .ok (.invokevirtual 71, 3) := by decide +kernel
theorem dX2_turnBy_39 : decode cX2_turnBy 39 = .ok (.goto 8, 3) := by decide +kernel
theorem dX2_turnBy_42 : decode cX2_turnBy 42 = .ok (.aload_n 0, 1) := by decide +kernel
theorem dX2_turnBy_43 : decode cX2_turnBy 43 = .ok (.iload_n 2, 1) := by decide +kernel
theorem dX2_turnBy_44 : decode cX2_turnBy 44 = .ok (.putfield 38, 3) := by decide +kernel
theorem dX2_turnBy_47 : decode cX2_turnBy 47 = .ok (.aload_n 0, 1) := by decide +kernel
theorem dX2_turnBy_48 : decode cX2_turnBy 48 = .ok (.iconst 0, 1) := by decide +kernel
theorem dX2_turnBy_49 : decode cX2_turnBy 49 = .ok (.putfield 75, 3) := by decide +kernel
theorem dX2_turnBy_52 : decode cX2_turnBy 52 = .ok (.aload_n 0, 1) := by decide +kernel
theorem dX2_turnBy_53 : decode cX2_turnBy 53 = .ok (.iconst 0, 1) := by decide +kernel
theorem dX2_turnBy_54 : decode cX2_turnBy 54 = .ok (.iload_n 1, 1) := by decide +kernel
theorem dX2_turnBy_55 : decode cX2_turnBy 55 = .ok (.invokestatic 78, 3) := by decide +kernel
theorem dX2_turnBy_58 : decode cX2_turnBy 58 = .ok (.invokevirtual 83, 3) := by decide +kernel
theorem dX2_turnBy_61 : decode cX2_turnBy 61 = .ok (.iload_n 2, 1) := by decide +kernel
theorem dX2_turnBy_62 : decode cX2_turnBy 62 = .ok (.ireturn, 1) := by decide +kernel
theorem dX2_turned_0 : decode cX2_turned 0 = .ok (.aload_n 0, 1) := by decide +kernel
theorem dX2_turned_1 : decode cX2_turned 1 = .ok (.getfield 48, 3) := by decide +kernel
theorem dX2_turned_4 : decode cX2_turned 4 = .ok (.iconst 1, 1) := by decide +kernel
theorem dX2_turned_5 : decode cX2_turned 5 = .ok (.if_icmp .ne 9, 3) := by decide +kernel
theorem dX2_turned_8 : decode cX2_turned 8 = .ok (.aload_n 0, 1) := by decide +kernel
theorem dX2_turned_9 : decode cX2_turned 9 = .ok (.iload_n 1, 1) := by decide +kernel
theorem dX2_turned_10 : decode cX2_turned 10 = .ok (.invokevirtual 86, 3) := by decide +kernel
theorem dX2_turned_13 : decode cX2_turned 13 = .ok (.ireturn, 1) := by decide +kernel
theorem dX2_turned_14 : decode cX2_turned 14 = .ok (.aload_n 0, 1) := by decide +kernel
theorem dX2_turned_15 : decode cX2_turned 15 = .ok (.getfield 48, 3) := by decide +kernel
theorem dX2_turned_18 : decode cX2_turned 18 = .ok (.iconst 2, 1) := by decide +kernel
theorem dX2_turned_19 : decode cX2_turned 19 = .ok (.if_icmp .ne 19, 3) := by decide +kernel
theorem dX2_turned_22 : decode cX2_turned 22 = .ok (.aload_n 0, 1) := by decide +kernel
theorem dX2_turned_23 : decode cX2_turned 23 = .ok (.aload_n 0, 1) := by decide +kernel
theorem dX2_turned_24 : decode cX2_turned 24 = .ok (.getfield 68, 3) := by decide +kernel
theorem dX2_turned_27 : decode cX2_turned 27 = .ok (.invokevirtual 89, 3) := by decide +kernel
theorem dX2_turned_30 : decode cX2_turned 30 = .ok (.iload_n 1, 1) := by decide +kernel
theorem dX2_turned_31 : decode cX2_turned 31 = .ok (.iadd, 1) := by decide +kernel
theorem dX2_turned_32 : decode cX2_turned 32 = .ok (.bipush 10, 2) := by decide +kernel
theorem dX2_turned_34 : decode cX2_turned 34 = .ok (.invokestatic 92, 3) := by decide +kernel
theorem dX2_turned_37 : decode cX2_turned 37 = .ok (.ireturn, 1) := by decide +kernel
theorem dX2_turned_38 : decode cX2_turned 38 = .ok (.aload_n 0, 1) := by decide +kernel
theorem dX2_turned_39 : decode cX2_turned 39 = .ok (.getfield 35, 3) := by decide +kernel
theorem dX2_turned_42 : decode cX2_turned 42 = .ok (.invokevirtual 96, 3) := by decide +kernel
theorem dX2_turned_45 : decode cX2_turned 45 = .ok (.istore_n 2, 1) := by decide +kernel
theorem dX2_turned_46 : decode cX2_turned 46 = .ok (.aload_n 0, 1) := by decide +kernel
theorem dX2_turned_47 : decode cX2_turned 47 = .ok (.iconst 2, 1) := by decide +kernel
theorem dX2_turned_48 : decode cX2_turned 48 = .ok (.invokevirtual 100, 3) := by decide +kernel
theorem dX2_turned_51 : decode cX2_turned 51 = .ok (.iconst 1, 1) := by decide +kernel
theorem dX2_turned_52 : decode cX2_turned 52 = .ok (.if_icmp .ne 14, 3) := by decide +kernel
theorem dX2_turned_55 : decode cX2_turned 55 = .ok (.aload_n 0, 1) := by decide +kernel
theorem dX2_turned_56 : decode cX2_turned 56 = .ok (.getfield 38, 3) := by decide +kernel
theorem dX2_turned_59 : decode cX2_turned 59 = .ok (.iload_n 1, 1) := by decide +kernel
theorem dX2_turned_60 : decode cX2_turned 60 = .ok (.iadd, 1) := by decide +kernel
theorem dX2_turned_61 : decode cX2_turned 61 = .ok (.iload_n 2, 1) := by decide +kernel
theorem dX2_turned_62 : decode cX2_turned 62 = .ok (.invokestatic 92, 3) := by decide +kernel
theorem dX2_turned_65 : decode cX2_turned 65 = .ok (.ireturn, 1) := by decide +kernel
theorem dX2_turned_66 : decode cX2_turned 66 = .ok (.iconst 0, 1) := by decide +kernel
theorem dX2_turned_67 : decode cX2_turned 67 = .ok (.iload_n 2, 1) := by decide +kernel
theorem dX2_turned_68 : decode cX2_turned 68 = .ok (.iconst 1, 1) := by decide +kernel
theorem dX2_turned_69 : decode cX2_turned 69 = .ok (.isub, 1) := by decide +kernel
theorem dX2_turned_70 : decode cX2_turned 70 = .ok (.aload_n 0, 1) := by decide +kernel
theorem dX2_turned_71 : decode cX2_turned 71 = .ok (.getfield 38, 3) := by decide +kernel
theorem dX2_turned_74 : decode cX2_turned 74 = .ok (.iload_n 1, 1) := by decide +kernel
theorem dX2_turned_75 : decode cX2_turned 75 = .ok (.iadd, 1) := by decide +kernel
theorem dX2_turned_76 : decode cX2_turned 76 = .ok (.invokestatic 103, 3) := by decide +kernel
theorem dX2_turned_79 : decode cX2_turned 79 = .ok (.invokestatic 106, 3) := by decide +kernel
theorem dX2_turned_82 : decode cX2_turned 82 = .ok (.ireturn, 1) := by decide +kernel
theorem dX2_turnedDraft_0 : decode cX2_turnedDraft 0 = .ok (.aload_n 0, 1) := by decide +kernel
theorem dX2_turnedDraft_1 : decode cX2_turnedDraft 1 = .ok (.invokevirtual 109, 3) := by decide +kernel
theorem dX2_turnedDraft_4 : decode cX2_turnedDraft 4 = .ok (.astore_n 2, 1) := by decide +kernel
theorem dX2_turnedDraft_5 : decode cX2_turnedDraft 5 = .ok (.aload_n 2, 1) := by decide +kernel
theorem dX2_turnedDraft_6 : decode cX2_turnedDraft 6 = .ok (.ifnonnull 8, 3) := by decide +kernel
theorem dX2_turnedDraft_9 : decode cX2_turnedDraft 9 = .ok (.aload_n 0, 1) := by decide +kernel
theorem dX2_turnedDraft_10 : decode cX2_turnedDraft 10 = .ok (.getfield 65, 3) := by decide +kernel
theorem dX2_turnedDraft_13 : decode cX2_turnedDraft 13 = .ok (.ireturn, 1) := by decide +kernel
theorem dX2_turnedDraft_14 : decode cX2_turnedDraft 14 = .ok (.aload_n 2, 1) := by decide +kernel
theorem dX2_turnedDraft_15 : decode cX2_turnedDraft 15 = .ok (.getfield 113, 3) := by decide +kernel
theorem dX2_turnedDraft_18 : decode cX2_turnedDraft 18 = .ok (.iconst 2, 1) := by decide +kernel
theorem dX2_turnedDraft_19 : decode cX2_turnedDraft 19 = .ok (.if_icmp .ne 19, 3) := by decide +kernel
theorem dX2_turnedDraft_22 : decode cX2_turnedDraft 22 = .ok (.aload_n 0, 1) := by decide +kernel
theorem dX2_turnedDraft_23 : decode cX2_turnedDraft 23 = .ok (.getfield 65, 3) := by decide +kernel
theorem dX2_turnedDraft_26 : decode cX2_turnedDraft 26 = .ok (.iload_n 1, 1) := by decide +kernel
theorem dX2_turnedDraft_27 : decode cX2_turnedDraft 27 = .ok (.iadd, 1) := by decide +kernel
theorem dX2_turnedDraft_28 : decode cX2_turnedDraft 28 = .ok (.aload_n 2, 1) := by decide +kernel
theorem dX2_turnedDraft_29 : decode cX2_turnedDraft 29 = .ok (.getfield 116, 3) := by decide +kernel
theorem dX2_turnedDraft_32 : decode cX2_turnedDraft 32 = .ok (.iconst 1, 1) := by decide +kernel
theorem dX2_turnedDraft_33 : decode cX2_turnedDraft 33 = .ok (.iadd, 1) := by decide +kernel
theorem dX2_turnedDraft_34 : decode cX2_turnedDraft 34 = .ok (.invokestatic 92, 3) := by decide +kernel
theorem dX2_turnedDraft_37 : decode cX2_turnedDraft 37 = .ok (.ireturn, 1) := by decide +kernel
theorem dX2_turnedDraft_38 : decode cX2_turnedDraft 38 = .ok (.iload_n 1, 1) := by decide +kernel
theorem dX2_turnedDraft_39 : decode cX2_turnedDraft 39 = .ok (.invokestatic 78, 3) := by decide +kernel
theorem dX2_turnedDraft_42 : decode cX2_turnedDraft 42 = .ok (.iconst 5, 1) := by decide +kernel
theorem dX2_turnedDraft_43 : decode cX2_turnedDraft 43 = .ok (.if_icmp .lt 7, 3) := by decide +kernel
theorem dX2_turnedDraft_46 : decode cX2_turnedDraft 46 = .ok (.iconst 2, 1) := by decide +kernel
theorem dX2_turnedDraft_47 : decode cX2_turnedDraft 47 = .ok (.goto 4, 3) := by decide +kernel
theorem dX2_turnedDraft_50 : decode cX2_turnedDraft 50 = .ok (.iconst 1, 1) := by decide +kernel
theorem dX2_turnedDraft_51 : decode cX2_turnedDraft 51 = .ok (.istore_n 3, 1) := by decide +kernel
theorem dX2_turnedDraft_52 : decode cX2_turnedDraft 52 = .ok (.aload_n 0, 1) := by decide +kernel
theorem dX2_turnedDraft_53 : decode cX2_turnedDraft 53 = .ok (.getfield 65, 3) := by decide +kernel
theorem dX2_turnedDraft_56 : decode cX2_turnedDraft 56 = .ok (.iload_n 1, 1) := by decide +kernel
theorem dX2_turnedDraft_57 : decode cX2_turnedDraft 57 = .ok (.iload_n 3, 1) := by decide +kernel
theorem dX2_turnedDraft_58 : decode cX2_turnedDraft 58 = .ok (.imul, 1) := by decide +kernel
theorem dX2_turnedDraft_59 : decode cX2_turnedDraft 59 = .ok (.aload_n 2, 1) := by decide +kernel
theorem dX2_turnedDraft_60 : decode cX2_turnedDraft 60 = .ok (.getfield 119, 3) := by decide +kernel
theorem dX2_turnedDraft_63 : decode cX2_turnedDraft 63 = .ok (.imul, 1) := by decide +kernel
theorem dX2_turnedDraft_64 : decode cX2_turnedDraft 64 = .ok (.iadd, 1) := by decide +kernel
theorem dX2_turnedDraft_65 : decode cX2_turnedDraft 65 = .ok (.istore 4, 2) := by decide +kernel
theorem dX2_turnedDraft_67 : decode cX2_turnedDraft 67 = .ok (.aload_n 2, 1) := by decide +kernel
theorem dX2_turnedDraft_68 : decode cX2_turnedDraft 68 = .ok (.getfield 122, 3) := by decide +kernel
theorem dX2_turnedDraft_71 : decode cX2_turnedDraft 71 = .ok (.aload_n 2, 1) := by decide +kernel
theorem dX2_turnedDraft_72 : decode cX2_turnedDraft 72 = .ok (.getfield 116, 3) := by decide +kernel
theorem dX2_turnedDraft_75 : decode cX2_turnedDraft 75 = .ok (.iload 4, 2) := by decide +kernel
theorem dX2_turnedDraft_77 : decode cX2_turnedDraft 77 = .ok (.invokestatic 103, 3) := by decide +kernel
theorem dX2_turnedDraft_80 : decode cX2_turnedDraft 80 = .ok (.invokestatic 106, 3) := by decide +kernel
theorem dX2_turnedDraft_83 : decode cX2_turnedDraft 83 = .ok (.ireturn, 1) := by decide +kernel
theorem dX2_around_0 : decode cX2_around 0 = .ok (.iload_n 1, 1) := by decide +kernel
theorem dX2_around_1 : decode cX2_around 1 = .ok (.ifCond .le 11, 3) := by decide +kernel
theorem dX2_around_4 : decode cX2_around 4 = .ok (.iload_n 0, 1) := by decide +kernel
theorem dX2_around_5 : decode cX2_around 5 = .ok (.iload_n 1, 1) := by decide +kernel
theorem dX2_around_6 : decode cX2_around 6 = .ok (.invokestatic 125, 3) := by decide +kernel
theorem dX2_around_9 : decode cX2_around 9 = .ok (.goto 4, 3) := by decide +kernel
theorem dX2_around_12 : decode cX2_around 12 = .ok (.iconst 0, 1) := by decide +kernel
theorem dX2_around_13 : decode cX2_around 13 = .ok (.ireturn, 1) := by decide +kernel
theorem dX2_pressKnob_0 : decode cX2_pressKnob 0 = .ok (.aload_n 0, 1) := by decide +kernel
theorem dX2_pressKnob_1 : decode cX2_pressKnob 1 = .ok (.iconst 0, 1) := by decide +kernel
theorem dX2_pressKnob_2 : decode cX2_pressKnob 2 = .ok (.putfield 75, 3) := by decide +kernel
theorem dX2_pressKnob_5 : decode cX2_pressKnob 5 = .ok (.aload_n 0, 1) := by decide +kernel
theorem dX2_pressKnob_6 : decode cX2_pressKnob 6 = .ok (.iconst 1, 1) := by decide +kernel
theorem dX2_pressKnob_7 : decode cX2_pressKnob 7 = .ok (.iconst 1, 1) := by decide +kernel
theorem dX2_pressKnob_8 : decode cX2_pressKnob 8 = .ok (.invokevirtual 83, 3) := by decide +kernel
theorem dX2_pressKnob_11 : decode cX2_pressKnob 11 = .ok (.aload_n 0, 1) := by decide +kernel
theorem dX2_pressKnob_12 : decode cX2_pressKnob 12 = .ok (.invokevirtual 109, 3) := by decide +kernel
theorem dX2_pressKnob_15 : decode cX2_pressKnob 15 = .ok (.astore_n 1, 1) := by decide +kernel
theorem dX2_pressKnob_16 : decode cX2_pressKnob 16 = .ok (.aload_n 1, 1) := by decide +kernel
theorem dX2_pressKnob_17 : decode cX2_pressKnob 17 = .ok (.ifnonnull 8, 3) := by decide +kernel
theorem dX2_pressKnob_20 : decode cX2_pressKnob 20 = .ok (.aload_n 0, 1) := by decide +kernel
theorem dX2_pressKnob_21 : decode cX2_pressKnob 21 = .ok (.invokevirtual 128, 3) := by decide +kernel
theorem dX2_pressKnob_24 : decode cX2_pressKnob 24 = .ok (.ireturn, 1) := by decide +kernel
theorem dX2_pressKnob_25 : decode cX2_pressKnob 25 = .ok (.aload_n 0, 1) := by decide +kernel
theorem dX2_pressKnob_26 : decode cX2_pressKnob 26 = .ok (.getfield 48, 3) := by decide +kernel
theorem dX2_pressKnob_29 : decode cX2_pressKnob 29 = .ok (.iconst 1, 1) := by decide +kernel
theorem dX2_pressKnob_30 : decode cX2_pressKnob 30 = .ok (.if_icmp .ne 9, 3) := by decide +kernel
theorem dX2_pressKnob_33 : decode cX2_pressKnob 33 = .ok (.aload_n 0, 1) := by decide +kernel
theorem dX2_pressKnob_34 : decode cX2_pressKnob 34 = .ok (.aload_n 1, 1) := by decide +kernel
theorem dX2_pressKnob_35 : decode cX2_pressKnob 35 = .ok (.invokevirtual 131, 3) := by decide +kernel
theorem dX2_pressKnob_38 : decode cX2_pressKnob 38 = .ok (.ireturn, 1) := by decide +kernel
theorem dX2_pressKnob_39 : decode cX2_pressKnob 39 = .ok (.aload_n 0, 1) := by decide +kernel
theorem dX2_pressKnob_40 : decode cX2_pressKnob 40 = .ok (.getfield 48, 3) := by decide +kernel
theorem dX2_pressKnob_43 : decode cX2_pressKnob 43 = .ok (.iconst 2, 1) := by decide +kernel
theorem dX2_pressKnob_44 : decode cX2_pressKnob 44 = .ok (.if_icmp .ne 9, 3) := by decide +kernel
theorem dX2_pressKnob_47 : decode cX2_pressKnob 47 = .ok (.aload_n 0, 1) := by decide +kernel
theorem dX2_pressKnob_48 : decode cX2_pressKnob 48 = .ok (.aload_n 1, 1) := by decide +kernel
theorem dX2_pressKnob_49 : decode cX2_pressKnob 49 = .ok (.invokevirtual 135, 3) := by decide +kernel
theorem dX2_pressKnob_52 : decode cX2_pressKnob 52 = .ok (.ireturn, 1) := by decide +kernel
theorem dX2_pressKnob_53 : decode cX2_pressKnob 53 = .ok (.aload_n 1, 1) := by decide +kernel
theorem dX2_pressKnob_54 : decode cX2_pressKnob 54 = .ok (.invokevirtual 138, 3) := by decide +kernel
theorem dX2_pressKnob_57 : decode cX2_pressKnob 57 = .ok (.ifCond .eq 8, 3) := by decide +kernel
theorem dX2_pressKnob_60 : decode cX2_pressKnob 60 = .ok (.aload_n 0, 1) := by decide +kernel
theorem dX2_pressKnob_61 : decode cX2_pressKnob 61 = .ok (.invokevirtual 141, 3) := by decide +kernel
theorem dX2_pressKnob_64 : decode cX2_pressKnob 64 = .ok (.ireturn, 1) := by decide +kernel
theorem dX2_pressKnob_65 : decode cX2_pressKnob 65 = .ok (.aload_n 0, 1) := by decide +kernel
theorem dX2_pressKnob_66 : decode cX2_pressKnob 66 = .ok (.aload_n 1, 1) := by decide +kernel
theorem dX2_pressKnob_67 : decode cX2_pressKnob 67 = .ok (.invokevirtual 144, 3) := by decide +kernel
theorem dX2_pressKnob_70 : decode cX2_pressKnob 70 = .ok (.ireturn, 1) := by decide +kernel
theorem dX2_goBack_0 : decode cX2_goBack 0 = .ok (.aload_n 0, 1) := by decide +kernel
theorem dX2_goBack_1 : decode cX2_goBack 1 = .ok (.getfield 35, 3) := by decide +kernel
theorem dX2_goBack_4 : decode cX2_goBack 4 = .ok (.astore_n 1, 1) := by decide +kernel
theorem dX2_goBack_5 : decode cX2_goBack 5 = .ok (.aload_n 1, 1) := by decide +kernel
theorem dX2_goBack_6 : decode cX2_goBack 6 = .ok (.getfield 147, 3) := by decide +kernel
theorem dX2_goBack_9 : decode cX2_goBack 9 = .ok (.astore_n 2, 1) := by decide +kernel
theorem dX2_goBack_10 : decode cX2_goBack 10 = .ok (.aload_n 2, 1) := by decide +kernel
theorem dX2_goBack_11 : decode cX2_goBack 11 = .ok (.ifnonnull 5, 3) := by decide +kernel
theorem dX2_goBack_14 : decode cX2_goBack 14 = .ok (.iconst 0, 1) := by decide +kernel
theorem dX2_goBack_15 : decode cX2_goBack 15 = .ok (.ireturn, 1) := by decide +kernel
theorem dX2_goBack_16 : decode cX2_goBack 16 = .ok (.aload_n 0, 1) := by decide +kernel
theorem dX2_goBack_17 : decode cX2_goBack 17 = .ok (.aload_n 2, 1) := by decide +kernel
theorem dX2_goBack_18 : decode cX2_goBack 18 = .ok (.putfield 35, 3) := by decide +kernel
theorem dX2_goBack_21 : decode cX2_goBack 21 = .ok (.aload_n 0, 1) := by decide +kernel
theorem dX2_goBack_22 : decode cX2_goBack 22 = .ok (.aload_n 1, 1) := by decide +kernel
theorem dX2_goBack_23 : decode cX2_goBack 23 = .ok (.getfield 150, 3) := by decide +kernel
theorem dX2_goBack_26 : decode cX2_goBack 26 = .ok (.putfield 38, 3) := by decide +kernel
theorem dX2_goBack_29 : decode cX2_goBack 29 = .ok (.iconst 1, 1) := by decide +kernel
theorem dX2_goBack_30 : decode cX2_goBack 30 = .ok (.ireturn, 1) := by decide +kernel
theorem dX2_use_0 : decode cX2_use 0 = .ok (.aload_n 1, 1) := by decide +kernel
theorem dX2_use_1 : decode cX2_use 1 = .ok (.getfield 113, 3) := by decide +kernel
theorem dX2_use_4 : decode cX2_use 4 = .ok (.ifCond .ne 15, 3) := by decide +kernel
theorem dX2_use_7 : decode cX2_use 7 = .ok (.aload_n 0, 1) := by decide +kernel
theorem dX2_use_8 : decode cX2_use 8 = .ok (.aload_n 1, 1) := by decide +kernel
theorem dX2_use_9 : decode cX2_use 9 = .ok (.putfield 35, 3) := by decide +kernel
theorem dX2_use_12 : decode cX2_use 12 = .ok (.aload_n 0, 1) := by decide +kernel
theorem dX2_use_13 : decode cX2_use 13 = .ok (.iconst 0, 1) := by decide +kernel
theorem dX2_use_14 : decode cX2_use 14 = .ok (.putfield 38, 3) := by decide +kernel
theorem dX2_use_17 : decode cX2_use 17 = .ok (.iconst 2, 1) := by decide +kernel
theorem dX2_use_18 : decode cX2_use 18 = .ok (.ireturn, 1) := by decide +kernel
theorem dX2_use_19 : decode cX2_use 19 = .ok (.aload_n 0, 1) := by decide +kernel
theorem dX2_use_20 : decode cX2_use 20 = .ok (.iconst 1, 1) := by decide +kernel
theorem dX2_use_21 : decode cX2_use 21 = .ok (.putfield 48, 3) := by decide +kernel
theorem dX2_use_24 : decode cX2_use 24 = .ok (.aload_n 0, 1) := by decide +kernel
theorem dX2_use_25 : decode cX2_use 25 = .ok (.aload_n 1, 1) := by decide +kernel
theorem dX2_use_26 : decode cX2_use 26 = .ok (.getfield 153, 3) := by decide +kernel
theorem dX2_use_29 : decode cX2_use 29 = .ok (.putfield 65, 3) := by decide +kernel
theorem dX2_use_32 : decode cX2_use 32 = .ok (.iconst 3, 1) := by decide +kernel
theorem dX2_use_33 : decode cX2_use 33 = .ok (.ireturn, 1) := by decide +kernel
theorem dX2_endEdit_0 : decode cX2_endEdit 0 = .ok (.aload_n 0, 1) := by decide +kernel
theorem dX2_endEdit_1 : decode cX2_endEdit 1 = .ok (.iconst 0, 1) := by decide +kernel
theorem dX2_endEdit_2 : decode cX2_endEdit 2 = .ok (.putfield 48, 3) := by decide +kernel
theorem dX2_endEdit_5 : decode cX2_endEdit 5 = .ok (.aload_n 1, 1) := by decide +kernel
theorem dX2_endEdit_6 : decode cX2_endEdit 6 = .ok (.getfield 153, 3) := by decide +kernel
theorem dX2_endEdit_9 : decode cX2_endEdit 9 = .ok (.aload_n 0, 1) := by decide +kernel
theorem dX2_endEdit_10 : decode cX2_endEdit 10 = .ok (.getfield 65, 3) := by decide +kernel
theorem dX2_endEdit_13 : decode cX2_endEdit 13 = .ok (.if_icmp .eq 29, 3) := by decide +kernel
theorem dX2_endEdit_16 : decode cX2_endEdit 16 = .ok (.aload_n 0, 1) := by decide +kernel
theorem dX2_endEdit_17 : decode cX2_endEdit 17 = .ok (.getfield 25, 3) := by decide +kernel
theorem dX2_endEdit_20 : decode cX2_endEdit 20 = .ok (.aload_n 1, 1) := by decide +kernel
theorem dX2_endEdit_21 : decode cX2_endEdit 21 = .ok (.aload_n 1, 1) := by decide +kernel
theorem dX2_endEdit_22 : decode cX2_endEdit 22 = .ok (.getfield 153, 3) := by decide +kernel
theorem dX2_endEdit_25 : decode cX2_endEdit 25 = .ok (.invokevirtual 156, 3) := by decide +kernel
theorem dX2_endEdit_28 : decode cX2_endEdit 28 = .ok (.aload_n 1, 1) := by decide +kernel
theorem dX2_endEdit_29 : decode cX2_endEdit 29 = .ok (.aload_n 0, 1) := by decide +kernel
theorem dX2_endEdit_30 : decode cX2_endEdit 30 = .ok (.getfield 65, 3) := by decide +kernel
theorem dX2_endEdit_33 : decode cX2_endEdit 33 = .ok (.putfield 153, 3) := by decide +kernel
theorem dX2_endEdit_36 : decode cX2_endEdit 36 = .ok (.aload_n 0, 1) := by decide +kernel
theorem dX2_endEdit_37 : decode cX2_endEdit 37 = .ok (.iconst 2, 1) := by decide +kernel
theorem dX2_endEdit_38 : decode cX2_endEdit 38 = .ok (.iconst 1, 1) := by decide +kernel
theorem dX2_endEdit_39 : decode cX2_endEdit 39 = .ok (.invokevirtual 83, 3) := by decide +kernel
theorem dX2_endEdit_42 : decode cX2_endEdit 42 = .ok (.iconst 4, 1) := by decide +kernel
theorem dX2_endEdit_43 : decode cX2_endEdit 43 = .ok (.ireturn, 1) := by decide +kernel
theorem dX2_beginCode_0 : decode cX2_beginCode 0 = .ok (.aload_n 0, 1) := by decide +kernel
theorem dX2_beginCode_1 : decode cX2_beginCode 1 = .ok (.getfield 162, 3) := by decide +kernel
theorem dX2_beginCode_4 : decode cX2_beginCode 4 = .ok (.ifCond .le 6, 3) := by decide +kernel
theorem dX2_beginCode_7 : decode cX2_beginCode 7 = .ok (.bipush 9, 2) := by decide +kernel
theorem dX2_beginCode_9 : decode cX2_beginCode 9 = .ok (.ireturn, 1) := by decide +kernel
theorem dX2_beginCode_10 : decode cX2_beginCode 10 = .ok (.aload_n 0, 1) := by decide +kernel
theorem dX2_beginCode_11 : decode cX2_beginCode 11 = .ok (.iconst 2, 1) := by decide +kernel
theorem dX2_beginCode_12 : decode cX2_beginCode 12 = .ok (.putfield 48, 3) := by decide +kernel
theorem dX2_beginCode_15 : decode cX2_beginCode 15 = .ok (.aload_n 0, 1) := by decide +kernel
theorem dX2_beginCode_16 : decode cX2_beginCode 16 = .ok (.iconst 0, 1) := by decide +kernel
theorem dX2_beginCode_17 : decode cX2_beginCode 17 = .ok (.putfield 68, 3) := by decide +kernel
theorem dX2_beginCode_20 : decode cX2_beginCode 20 = .ok (.iconst 0, 1) := by decide +kernel
theorem dX2_beginCode_21 : decode cX2_beginCode 21 = .ok (.istore_n 1, 1) := by decide +kernel
theorem dX2_beginCode_22 : decode cX2_beginCode 22 = .ok (.iload_n 1, 1) := by decide +kernel
theorem dX2_beginCode_23 : decode cX2_beginCode 23 = .ok (.iconst 4, 1) := by decide +kernel
theorem dX2_beginCode_24 : decode cX2_beginCode 24 = .ok (.if_icmp .ge 15, 3) := by decide +kernel
theorem dX2_beginCode_27 : decode cX2_beginCode 27 = .ok (.aload_n 0, 1) := by decide +kernel
theorem dX2_beginCode_28 : decode cX2_beginCode 28 = .ok (.iload_n 1, 1) := by decide +kernel
theorem dX2_beginCode_29 : decode cX2_beginCode 29 = .ok (.iconst 0, 1) := by decide +kernel
theorem dX2_beginCode_30 : decode cX2_beginCode 30 = .ok (.invokevirtual 71, 3) := by decide +kernel
theorem dX2_beginCode_33 : decode cX2_beginCode 33 = .ok (.iinc 1 1, 3) := by decide +kernel
theorem dX2_beginCode_36 : decode cX2_beginCode 36 = .ok (.goto (-14), 3) := by decide +kernel
theorem dX2_beginCode_39 : decode cX2_beginCode 39 = .ok (.iconst 5, 1) := by decide +kernel
theorem dX2_beginCode_40 : decode cX2_beginCode 40 = .ok (.ireturn, 1) := by decide +kernel
theorem dX2_endDigit_0 : decode cX2_endDigit 0 = .ok (.aload_n 0, 1) := by decide +kernel
theorem dX2_endDigit_1 : decode cX2_endDigit 1 = .ok (.getfield 68, 3) := by decide +kernel
theorem dX2_endDigit_4 : decode cX2_endDigit 4 = .ok (.iconst 3, 1) := by decide +kernel
theorem dX2_endDigit_5 : decode cX2_endDigit 5 = .ok (.if_icmp .ge 16, 3) := by decide +kernel
theorem dX2_endDigit_8 : decode cX2_endDigit 8 = .ok (.aload_n 0, 1) := by decide +kernel
theorem dX2_endDigit_9 : decode cX2_endDigit 9 = .ok (.dup, 1) := by decide +kernel
theorem dX2_endDigit_10 : decode cX2_endDigit 10 = .ok (.getfield 68, 3) := by decide +kernel
theorem dX2_endDigit_13 : decode cX2_endDigit 13 = .ok (.iconst 1, 1) := by decide +kernel
theorem dX2_endDigit_14 : decode cX2_endDigit 14 = .ok (.iadd, 1) := by decide +kernel
theorem dX2_endDigit_15 : decode cX2_endDigit 15 = .ok (.putfield 68, 3) := by decide +kernel
theorem dX2_endDigit_18 : decode cX2_endDigit 18 = .ok (.bipush 6, 2) := by decide +kernel
theorem dX2_endDigit_20 : decode cX2_endDigit 20 = .ok (.ireturn, 1) := by decide +kernel
theorem dX2_endDigit_21 : decode cX2_endDigit 21 = .ok (.aload_n 0, 1) := by decide +kernel
theorem dX2_endDigit_22 : decode cX2_endDigit 22 = .ok (.iconst 0, 1) := by decide +kernel
theorem dX2_endDigit_23 : decode cX2_endDigit 23 = .ok (.putfield 48, 3) := by decide +kernel
theorem dX2_endDigit_26 : decode cX2_endDigit 26 = .ok (.aload_n 0, 1) := by decide +kernel
theorem dX2_endDigit_27 : decode cX2_endDigit 27 = .ok (.invokevirtual 165, 3) := by decide +kernel
theorem dX2_endDigit_30 : decode cX2_endDigit 30 = .ok (.aload_n 1, 1) := by decide +kernel
theorem dX2_endDigit_31 : decode cX2_endDigit 31 = .ok (.getfield 168, 3) := by decide +kernel
theorem dX2_endDigit_34 : decode cX2_endDigit 34 = .ok (.if_icmp .ne 16, 3) := by decide +kernel
theorem dX2_endDigit_37 : decode cX2_endDigit 37 = .ok (.aload_n 1, 1) := by decide +kernel
theorem dX2_endDigit_38 : decode cX2_endDigit 38 = .ok (.iconst 1, 1) := by decide +kernel
theorem dX2_endDigit_39 : decode cX2_endDigit 39 = .ok (.putfield 171, 3) := by decide +kernel
theorem dX2_endDigit_42 : decode cX2_endDigit 42 = .ok (.aload_n 0, 1) := by decide +kernel
theorem dX2_endDigit_43 : decode cX2_endDigit 43 = .ok (.iconst 0, 1) := by decide +kernel
theorem dX2_endDigit_44 : decode cX2_endDigit 44 = .ok (.putfield 175, 3) := by decide +kernel
theorem dX2_endDigit_47 : decode cX2_endDigit 47 = .ok (.bipush 7, 2) := by decide +kernel
theorem dX2_endDigit_49 : decode cX2_endDigit 49 = .ok (.ireturn, 1) := by decide +kernel
theorem dX2_endDigit_50 : decode cX2_endDigit 50 = .ok (.aload_n 0, 1) := by decide +kernel
theorem dX2_endDigit_51 : decode cX2_endDigit 51 = .ok (.invokevirtual 178, 3) := by decide +kernel
theorem dX2_endDigit_54 : decode cX2_endDigit 54 = .ok (.bipush 8, 2) := by decide +kernel
theorem dX2_endDigit_56 : decode cX2_endDigit 56 = .ok (.ireturn, 1) := by decide +kernel
theorem dX2_enteredCode_0 : decode cX2_enteredCode 0 = .ok (.iconst 0, 1) := by decide +kernel
theorem dX2_enteredCode_1 : decode cX2_enteredCode 1 = .ok (.istore_n 1, 1) := by decide +kernel
theorem dX2_enteredCode_2 : decode cX2_enteredCode 2 = .ok (.iconst 0, 1) := by decide +kernel
theorem dX2_enteredCode_3 : decode cX2_enteredCode 3 = .ok (.istore_n 2, 1) := by decide +kernel
theorem dX2_enteredCode_4 : decode cX2_enteredCode 4 = .ok (.iload_n 2, 1) := by decide +kernel
theorem dX2_enteredCode_5 : decode cX2_enteredCode 5 = .ok (.iconst 4, 1) := by decide +kernel
theorem dX2_enteredCode_6 : decode cX2_enteredCode 6 = .ok (.if_icmp .ge 20, 3) := by decide +kernel
theorem dX2_enteredCode_9 : decode cX2_enteredCode 9 = .ok (.bipush 10, 2) := by decide +kernel
theorem dX2_enteredCode_11 : decode cX2_enteredCode 11 = .ok (.iload_n 1, 1) := by decide +kernel
theorem dX2_enteredCode_12 : decode cX2_enteredCode 12 = .ok (.imul, 1) := by decide +kernel
theorem dX2_enteredCode_13 : decode cX2_enteredCode 13 = .ok (.aload_n 0, 1) := by decide +kernel
theorem dX2_enteredCode_14 : decode cX2_enteredCode 14 = .ok (.iload_n 2, 1) := by decide +kernel
theorem dX2_enteredCode_15 : decode cX2_enteredCode 15 = .ok (.invokevirtual 89, 3) := by decide +kernel
theorem dX2_enteredCode_18 : decode cX2_enteredCode 18 = .ok (.iadd, 1) := by decide +kernel
theorem dX2_enteredCode_19 : decode cX2_enteredCode 19 = .ok (.istore_n 1, 1) := by decide +kernel
theorem dX2_enteredCode_20 : decode cX2_enteredCode 20 = .ok (.iinc 2 1, 3) := by decide +kernel
theorem dX2_enteredCode_23 : decode cX2_enteredCode 23 = .ok (.goto (-19), 3) := by decide +kernel
theorem dX2_enteredCode_26 : decode cX2_enteredCode 26 = .ok (.iload_n 1, 1) := by decide +kernel
theorem dX2_enteredCode_27 : decode cX2_enteredCode 27 = .ok (.ireturn, 1) := by decide +kernel
theorem dX2_countWrongCode_0 : decode cX2_countWrongCode 0 = .ok (.aload_n 0, 1) := by decide +kernel
theorem dX2_countWrongCode_1 : decode cX2_countWrongCode 1 = .ok (.iconst 4, 1) := by decide +kernel
theorem dX2_countWrongCode_2 : decode cX2_countWrongCode 2 = .ok (.iconst 1, 1) := by decide +kernel
theorem dX2_countWrongCode_3 : decode cX2_countWrongCode 3 = .ok (.invokevirtual 83, 3) := by decide +kernel
theorem dX2_countWrongCode_6 : decode cX2_countWrongCode 6 = .ok (.aload_n 0, 1) := by decide +kernel
theorem dX2_countWrongCode_7 : decode cX2_countWrongCode 7 = .ok (.dup, 1) := by decide +kernel
theorem dX2_countWrongCode_8 : decode cX2_countWrongCode 8 = .ok (.getfield 175, 3) := by decide +kernel
theorem dX2_countWrongCode_11 : decode cX2_countWrongCode 11 = .ok (.iconst 1, 1) := by decide +kernel
theorem dX2_countWrongCode_12 : decode cX2_countWrongCode 12 = .ok (.iadd, 1) := by decide +kernel
theorem dX2_countWrongCode_13 : decode cX2_countWrongCode 13 = .ok (.putfield 175, 3) := by decide +kernel
theorem dX2_countWrongCode_16 : decode cX2_countWrongCode 16 = .ok (.aload_n 0, 1) := by decide +kernel
theorem dX2_countWrongCode_17 : decode cX2_countWrongCode 17 = .ok (.getfield 175, 3) := by decide +kernel
theorem dX2_countWrongCode_20 : decode cX2_countWrongCode 20 = .ok (.iconst 3, 1) := by decide +kernel
theorem dX2_countWrongCode_21 : decode cX2_countWrongCode 21 = .ok (.if_icmp .lt 20, 3) := by decide +kernel
theorem dX2_countWrongCode_24 : decode cX2_countWrongCode 24 = .ok (.aload_n 0, 1) := by decide +kernel
theorem dX2_countWrongCode_25 : decode cX2_countWrongCode 25 = .ok (.iconst 0, 1) := by decide +kernel
theorem dX2_countWrongCode_26 : decode cX2_countWrongCode 26 = .ok (.putfield 175, 3) := by decide +kernel
theorem dX2_countWrongCode_29 : decode cX2_countWrongCode 29 = .ok (.aload_n 0, 1) := by decide +kernel
theorem dX2_countWrongCode_30 : decode cX2_countWrongCode 30 = .ok (.bipush 30, 2) := by decide +kernel
theorem dX2_countWrongCode_32 : decode cX2_countWrongCode 32 = .ok (.putfield 162, 3) := by decide +kernel
theorem dX2_countWrongCode_35 : decode cX2_countWrongCode 35 = .ok (.aload_n 0, 1) := by decide +kernel
theorem dX2_countWrongCode_36 : decode cX2_countWrongCode 36 = .ok (.iconst 5, 1) := by decide +kernel
theorem dX2_countWrongCode_37 : decode cX2_countWrongCode 37 = .ok (.iconst 1, 1) := by decide +kernel
theorem dX2_countWrongCode_38 : decode cX2_countWrongCode 38 = .ok (.invokevirtual 83, 3) := by decide +kernel
theorem dX2_countWrongCode_41 : decode cX2_countWrongCode 41 = .ok (.return_, 1) := by decide +kernel
theorem dX2_holdKnob_0 : decode cX2_holdKnob 0 = .ok (.aload_n 0, 1) := by decide +kernel
theorem dX2_holdKnob_1 : decode cX2_holdKnob 1 = .ok (.getfield 48, 3) := by decide +kernel
theorem dX2_holdKnob_4 : decode cX2_holdKnob 4 = .ok (.istore_n 1, 1) := by decide +kernel
theorem dX2_holdKnob_5 : decode cX2_holdKnob 5 = .ok (.aload_n 0, 1) := by decide +kernel
theorem dX2_holdKnob_6 : decode cX2_holdKnob 6 = .ok (.iconst 0, 1) := by decide +kernel
theorem dX2_holdKnob_7 : decode cX2_holdKnob 7 = .ok (.putfield 75, 3) := by decide +kernel
theorem dX2_holdKnob_10 : decode cX2_holdKnob 10 = .ok (.iload_n 1, 1) := by decide +kernel
theorem dX2_holdKnob_11 : decode cX2_holdKnob 11 = .ok (.ifCond .ne 7, 3) := by decide +kernel
theorem dX2_holdKnob_14 : decode cX2_holdKnob 14 = .ok (.aload_n 0, 1) := by decide +kernel
theorem dX2_holdKnob_15 : decode cX2_holdKnob 15 = .ok (.invokevirtual 181, 3) := by decide +kernel
theorem dX2_holdKnob_18 : decode cX2_holdKnob 18 = .ok (.aload_n 0, 1) := by decide +kernel
theorem dX2_holdKnob_19 : decode cX2_holdKnob 19 = .ok (.iconst 0, 1) := by decide +kernel
theorem dX2_holdKnob_20 : decode cX2_holdKnob 20 = .ok (.putfield 48, 3) := by decide +kernel
theorem dX2_holdKnob_23 : decode cX2_holdKnob 23 = .ok (.iload_n 1, 1) := by decide +kernel
theorem dX2_holdKnob_24 : decode cX2_holdKnob 24 = .ok (.ireturn, 1) := by decide +kernel
theorem dX2_passTicks_0 : decode cX2_passTicks 0 = .ok (.iconst 0, 1) := by decide +kernel
theorem dX2_passTicks_1 : decode cX2_passTicks 1 = .ok (.istore_n 2, 1) := by decide +kernel
theorem dX2_passTicks_2 : decode cX2_passTicks 2 = .ok (.iconst 0, 1) := by decide +kernel
theorem dX2_passTicks_3 : decode cX2_passTicks 3 = .ok (.istore_n 3, 1) := by decide +kernel
theorem dX2_passTicks_4 : decode cX2_passTicks 4 = .ok (.iload_n 3, 1) := by decide +kernel
theorem dX2_passTicks_5 : decode cX2_passTicks 5 = .ok (.iload_n 1, 1) := by decide +kernel
theorem dX2_passTicks_6 : decode cX2_passTicks 6 = .ok (.if_icmp .ge 16, 3) := by decide +kernel
theorem dX2_passTicks_9 : decode cX2_passTicks 9 = .ok (.iload_n 2, 1) := by decide +kernel
theorem dX2_passTicks_10 : decode cX2_passTicks 10 = .ok (.aload_n 0, 1) := by decide +kernel
theorem dX2_passTicks_11 : decode cX2_passTicks 11 = .ok (.invokevirtual 184, 3) := by decide +kernel
theorem dX2_passTicks_14 : decode cX2_passTicks 14 = .ok (.iadd, 1) := by decide +kernel
theorem dX2_passTicks_15 : decode cX2_passTicks 15 = .ok (.istore_n 2, 1) := by decide +kernel
theorem dX2_passTicks_16 : decode cX2_passTicks 16 = .ok (.iinc 3 1, 3) := by decide +kernel
theorem dX2_passTicks_19 : decode cX2_passTicks 19 = .ok (.goto (-15), 3) := by decide +kernel
theorem dX2_passTicks_22 : decode cX2_passTicks 22 = .ok (.aload_n 0, 1) := by decide +kernel
theorem dX2_passTicks_23 : decode cX2_passTicks 23 = .ok (.bipush 7, 2) := by decide +kernel
theorem dX2_passTicks_25 : decode cX2_passTicks 25 = .ok (.iload_n 1, 1) := by decide +kernel
theorem dX2_passTicks_26 : decode cX2_passTicks 26 = .ok (.invokevirtual 83, 3) := by decide +kernel
theorem dX2_passTicks_29 : decode cX2_passTicks 29 = .ok (.aload_n 0, 1) := by decide +kernel
theorem dX2_passTicks_30 : decode cX2_passTicks 30 = .ok (.bipush 6, 2) := by decide +kernel
theorem dX2_passTicks_32 : decode cX2_passTicks 32 = .ok (.iload_n 2, 1) := by decide +kernel
theorem dX2_passTicks_33 : decode cX2_passTicks 33 = .ok (.invokevirtual 83, 3) := by decide +kernel
theorem dX2_passTicks_36 : decode cX2_passTicks 36 = .ok (.iload_n 2, 1) := by decide +kernel
theorem dX2_passTicks_37 : decode cX2_passTicks 37 = .ok (.ireturn, 1) := by decide +kernel
theorem dX2_passTick_0 : decode cX2_passTick 0 = .ok (.iconst 0, 1) := by decide +kernel
theorem dX2_passTick_1 : decode cX2_passTick 1 = .ok (.istore_n 1, 1) := by decide +kernel
theorem dX2_passTick_2 : decode cX2_passTick 2 = .ok (.aload_n 0, 1) := by decide +kernel
theorem dX2_passTick_3 : decode cX2_passTick 3 = .ok (.dup, 1) := by decide +kernel
theorem dX2_passTick_4 : decode cX2_passTick 4 = .ok (.getfield 75, 3) := by decide +kernel
theorem dX2_passTick_7 : decode cX2_passTick 7 = .ok (.iconst 1, 1) := by decide +kernel
theorem dX2_passTick_8 : decode cX2_passTick 8 = .ok (.iadd, 1) := by decide +kernel
theorem dX2_passTick_9 : decode cX2_passTick 9 = .ok (.putfield 75, 3) := by decide +kernel
theorem dX2_passTick_12 : decode cX2_passTick 12 = .ok (.aload_n 0, 1) := by decide +kernel
theorem dX2_passTick_13 : decode cX2_passTick 13 = .ok (.getfield 162, 3) := by decide +kernel
theorem dX2_passTick_16 : decode cX2_passTick 16 = .ok (.ifCond .le 13, 3) := by decide +kernel
theorem dX2_passTick_19 : decode cX2_passTick 19 = .ok (.aload_n 0, 1) := by decide +kernel
theorem dX2_passTick_20 : decode cX2_passTick 20 = .ok (.dup, 1) := by decide +kernel
theorem dX2_passTick_21 : decode cX2_passTick 21 = .ok (.getfield 162, 3) := by decide +kernel
theorem dX2_passTick_24 : decode cX2_passTick 24 = .ok (.iconst 1, 1) := by decide +kernel
theorem dX2_passTick_25 : decode cX2_passTick 25 = .ok (.isub, 1) := by decide +kernel
theorem dX2_passTick_26 : decode cX2_passTick 26 = .ok (.putfield 162, 3) := by decide +kernel
theorem dX2_passTick_29 : decode cX2_passTick 29 = .ok (.aload_n 0, 1) := by decide +kernel
theorem dX2_passTick_30 : decode cX2_passTick 30 = .ok (.getfield 75, 3) := by decide +kernel
theorem dX2_passTick_33 : decode cX2_passTick 33 = .ok (.aload_n 0, 1) := by decide +kernel
theorem dX2_passTick_34 : decode cX2_passTick 34 = .ok (.iconst 0, 1) := by decide +kernel
theorem dX2_passTick_35 : decode cX2_passTick 35 = .ok (.invokevirtual 100, 3) := by decide +kernel
theorem dX2_passTick_38 : decode cX2_passTick 38 = .ok (.if_icmp .ne 18, 3) := by decide +kernel
theorem dX2_passTick_41 : decode cX2_passTick 41 = .ok (.aload_n 0, 1) := by decide +kernel
theorem dX2_passTick_42 : decode cX2_passTick 42 = .ok (.getfield 48, 3) := by decide +kernel
theorem dX2_passTick_45 : decode cX2_passTick 45 = .ok (.ifCond .eq 11, 3) := by decide +kernel
theorem dX2_passTick_48 : decode cX2_passTick 48 = .ok (.aload_n 0, 1) := by decide +kernel
theorem dX2_passTick_49 : decode cX2_passTick 49 = .ok (.iconst 0, 1) := by decide +kernel
theorem dX2_passTick_50 : decode cX2_passTick 50 = .ok (.putfield 48, 3) := by decide +kernel
theorem dX2_passTick_53 : decode cX2_passTick 53 = .ok (.iinc 1 1, 3) := by decide +kernel
theorem dX2_passTick_56 : decode cX2_passTick 56 = .ok (.aload_n 0, 1) := by decide +kernel
theorem dX2_passTick_57 : decode cX2_passTick 57 = .ok (.getfield 75, 3) := by decide +kernel
theorem dX2_passTick_60 : decode cX2_passTick 60 = .ok (.aload_n 0, 1) := by decide +kernel
theorem dX2_passTick_61 : decode cX2_passTick 61 = .ok (.iconst 1, 1) := by decide +kernel
theorem dX2_passTick_62 : decode cX2_passTick 62 = .ok (.invokevirtual 100, 3) := by decide +kernel
theorem dX2_passTick_65 : decode cX2_passTick 65 = .ok (.if_icmp .ne 17, 3) := by decide +kernel
theorem dX2_passTick_68 : decode cX2_passTick 68 = .ok (.aload_n 0, 1) := by decide +kernel
theorem dX2_passTick_69 : decode cX2_passTick 69 = .ok (.invokevirtual 187, 3) := by decide +kernel
theorem dX2_passTick_72 : decode cX2_passTick 72 = .ok (.ifCond .ne 10, 3) := by decide +kernel
theorem dX2_passTick_75 : decode cX2_passTick 75 = .ok (.aload_n 0, 1) := by decide +kernel
theorem dX2_passTick_76 : decode cX2_passTick 76 = .ok (.invokevirtual 181, 3) := by decide +kernel
theorem dX2_passTick_79 : decode cX2_passTick 79 = .ok (.iinc 1 1, 3) := by decide +kernel
theorem dX2_passTick_82 : decode cX2_passTick 82 = .ok (.iload_n 1, 1) := by decide +kernel
theorem dX2_passTick_83 : decode cX2_passTick 83 = .ok (.ireturn, 1) := by decide +kernel
theorem dX2_ticksUntilHome_0 : decode cX2_ticksUntilHome 0 = .ok (.aload_n 0, 1) := by decide +kernel
theorem dX2_ticksUntilHome_1 : decode cX2_ticksUntilHome 1 = .ok (.invokevirtual 187, 3) := by decide +kernel
theorem dX2_ticksUntilHome_4 : decode cX2_ticksUntilHome 4 = .ok (.ifCond .eq 5, 3) := by decide +kernel
theorem dX2_ticksUntilHome_7 : decode cX2_ticksUntilHome 7 = .ok (.iconst 0, 1) := by decide +kernel
theorem dX2_ticksUntilHome_8 : decode cX2_ticksUntilHome 8 = .ok (.ireturn, 1) := by decide +kernel
theorem dX2_ticksUntilHome_9 : decode cX2_ticksUntilHome 9 = .ok (.aload_n 0, 1) := by decide +kernel
theorem dX2_ticksUntilHome_10 : decode cX2_ticksUntilHome 10 = .ok (.invokevirtual 51, 3) := by decide +kernel
theorem dX2_ticksUntilHome_13 : decode cX2_ticksUntilHome 13 = .ok (.ifCond .eq 16, 3) := by decide +kernel
theorem dX2_ticksUntilHome_16 : decode cX2_ticksUntilHome 16 = .ok (.aload_n 0, 1) := by decide +kernel
theorem dX2_ticksUntilHome_17 : decode cX2_ticksUntilHome 17 = .ok (.iconst 0, 1) := by decide +kernel
theorem dX2_ticksUntilHome_18 : decode cX2_ticksUntilHome 18 = .ok (.invokevirtual 100, 3) := by decide +kernel
theorem dX2_ticksUntilHome_21 : decode cX2_ticksUntilHome 21 = .ok (.aload_n 0, 1) := by decide +kernel
theorem dX2_ticksUntilHome_22 : decode cX2_ticksUntilHome 22 = .ok (.getfield 75, 3) := by decide +kernel
theorem dX2_ticksUntilHome_25 : decode cX2_ticksUntilHome 25 = .ok (.isub, 1) := by decide +kernel
theorem dX2_ticksUntilHome_26 : decode cX2_ticksUntilHome 26 = .ok (.goto 4, 3) := by decide +kernel
theorem dX2_ticksUntilHome_29 : decode cX2_ticksUntilHome 29 = .ok (.iconst 0, 1) := by decide +kernel
theorem dX2_ticksUntilHome_30 : decode cX2_ticksUntilHome 30 = .ok (.istore_n 1, 1) := by decide +kernel
theorem dX2_ticksUntilHome_31 : decode cX2_ticksUntilHome 31 = .ok (.aload_n 0, 1) := by decide +kernel
theorem dX2_ticksUntilHome_32 : decode cX2_ticksUntilHome 32 = .ok (.iconst 1, 1) := by decide +kernel
theorem dX2_ticksUntilHome_33 : decode cX2_ticksUntilHome 33 = .ok (.invokevirtual 100, 3) := by decide +kernel
theorem dX2_ticksUntilHome_36 : decode cX2_ticksUntilHome 36 = .ok (.aload_n 0, 1) := by decide +kernel
theorem dX2_ticksUntilHome_37 : decode cX2_ticksUntilHome 37 = .ok (.getfield 75, 3) := by decide +kernel
theorem dX2_ticksUntilHome_40 : decode cX2_ticksUntilHome 40 = .ok (.isub, 1) := by decide +kernel
theorem dX2_ticksUntilHome_41 : decode cX2_ticksUntilHome 41 = .ok (.istore_n 2, 1) := by decide +kernel
theorem dX2_ticksUntilHome_42 : decode cX2_ticksUntilHome 42 = .ok (.iload_n 1, 1) := by decide +kernel
theorem dX2_ticksUntilHome_43 : decode cX2_ticksUntilHome 43 = .ok (.ifCond .le 13, 3) := by decide +kernel
theorem dX2_ticksUntilHome_46 : decode cX2_ticksUntilHome 46 = .ok (.iload_n 2, 1) := by decide +kernel
theorem dX2_ticksUntilHome_47 : decode cX2_ticksUntilHome 47 = .ok (.ifCond .le 9, 3) := by decide +kernel
theorem dX2_ticksUntilHome_50 : decode cX2_ticksUntilHome 50 = .ok (.iload_n 1, 1) := by decide +kernel
theorem dX2_ticksUntilHome_51 : decode cX2_ticksUntilHome 51 = .ok (.iload_n 2, 1) := by decide +kernel
theorem dX2_ticksUntilHome_52 : decode cX2_ticksUntilHome 52 = .ok (.invokestatic 103, 3) := by decide +kernel
theorem dX2_ticksUntilHome_55 : decode cX2_ticksUntilHome 55 = .ok (.ireturn, 1) := by decide +kernel
theorem dX2_ticksUntilHome_56 : decode cX2_ticksUntilHome 56 = .ok (.iload_n 1, 1) := by decide +kernel
theorem dX2_ticksUntilHome_57 : decode cX2_ticksUntilHome 57 = .ok (.iload_n 2, 1) := by decide +kernel
theorem dX2_ticksUntilHome_58 : decode cX2_ticksUntilHome 58 = .ok (.invokestatic 106, 3) := by decide +kernel
theorem dX2_ticksUntilHome_61 : decode cX2_ticksUntilHome 61 = .ok (.istore_n 3, 1) := by decide +kernel
theorem dX2_ticksUntilHome_62 : decode cX2_ticksUntilHome 62 = .ok (.iload_n 3, 1) := by decide +kernel
theorem dX2_ticksUntilHome_63 : decode cX2_ticksUntilHome 63 = .ok (.ifCond .le 7, 3) := by decide +kernel
theorem dX2_ticksUntilHome_66 : decode cX2_ticksUntilHome 66 = .ok (.iload_n 3, 1) := by decide +kernel
theorem dX2_ticksUntilHome_67 : decode cX2_ticksUntilHome 67 = .ok (.goto 4, 3) := by decide +kernel
theorem dX2_ticksUntilHome_70 : decode cX2_ticksUntilHome 70 = .ok (.iconst (-1), 1) := by decide +kernel
theorem dX2_ticksUntilHome_71 : decode cX2_ticksUntilHome 71 = .ok (.ireturn, 1) := by decide +kernel
theorem dX2_detentsFromHome_0 : decode cX2_detentsFromHome 0 = .ok (.iconst 0, 1) := by decide +kernel
theorem dX2_detentsFromHome_1 : decode cX2_detentsFromHome 1 = .ok (.istore_n 2, 1) := by decide +kernel
theorem dX2_detentsFromHome_2 : decode cX2_detentsFromHome 2 = .ok (.aload_n 1, 1) := by decide +kernel
theorem dX2_detentsFromHome_3 : decode cX2_detentsFromHome 3 = .ok (.astore_n 3, 1) := by decide +kernel
theorem dX2_detentsFromHome_4 : decode cX2_detentsFromHome 4 = .ok (.aload_n 1, 1) := by decide +kernel
theorem dX2_detentsFromHome_5 : decode cX2_detentsFromHome 5 = .ok (.getfield 147, 3) := by decide +kernel
theorem dX2_detentsFromHome_8 : decode cX2_detentsFromHome 8 = .ok (.astore 4, 2) := by decide +kernel
theorem dX2_detentsFromHome_10 : decode cX2_detentsFromHome 10 = .ok (.aload 4, 2) := by decide +kernel
theorem dX2_detentsFromHome_12 : decode cX2_detentsFromHome 12 = .ok (.ifnull 32, 3) := by decide +kernel
theorem dX2_detentsFromHome_15 : decode cX2_detentsFromHome 15 = .ok (.iload_n 2, 1) := by decide +kernel
theorem dX2_detentsFromHome_16 : decode cX2_detentsFromHome 16 = .ok (.aload_n 0, 1) := by decide +kernel
theorem dX2_detentsFromHome_17 : decode cX2_detentsFromHome 17 = .ok (.aload_n 3, 1) := by decide +kernel
theorem dX2_detentsFromHome_18 : decode cX2_detentsFromHome 18 = .ok (.getfield 150, 3) := by decide +kernel
theorem dX2_detentsFromHome_21 : decode cX2_detentsFromHome 21 = .ok (.aload 4, 2) := by decide +kernel
theorem dX2_detentsFromHome_23 : decode cX2_detentsFromHome 23 = .ok (.invokevirtual 96, 3) := by decide +kernel
theorem dX2_detentsFromHome_26 : decode cX2_detentsFromHome 26 = .ok (.invokevirtual 190, 3) := by decide +kernel
theorem dX2_detentsFromHome_29 : decode cX2_detentsFromHome 29 = .ok (.iadd, 1) := by decide +kernel
theorem dX2_detentsFromHome_30 : decode cX2_detentsFromHome 30 = .ok (.istore_n 2, 1) := by decide +kernel
theorem dX2_detentsFromHome_31 : decode cX2_detentsFromHome 31 = .ok (.aload 4, 2) := by decide +kernel
theorem dX2_detentsFromHome_33 : decode cX2_detentsFromHome 33 = .ok (.astore_n 3, 1) := by decide +kernel
theorem dX2_detentsFromHome_34 : decode cX2_detentsFromHome 34 = .ok (.aload 4, 2) := by decide +kernel
theorem dX2_detentsFromHome_36 : decode cX2_detentsFromHome 36 = .ok (.getfield 147, 3) := by decide +kernel
theorem dX2_detentsFromHome_39 : decode cX2_detentsFromHome 39 = .ok (.astore 4, 2) := by decide +kernel
theorem dX2_detentsFromHome_41 : decode cX2_detentsFromHome 41 = .ok (.goto (-31), 3) := by decide +kernel
theorem dX2_detentsFromHome_44 : decode cX2_detentsFromHome 44 = .ok (.iload_n 2, 1) := by decide +kernel
theorem dX2_detentsFromHome_45 : decode cX2_detentsFromHome 45 = .ok (.ireturn, 1) := by decide +kernel
theorem dX2_detentsToEntry_0 : decode cX2_detentsToEntry 0 = .ok (.aload_n 0, 1) := by decide +kernel
theorem dX2_detentsToEntry_1 : decode cX2_detentsToEntry 1 = .ok (.iconst 2, 1) := by decide +kernel
theorem dX2_detentsToEntry_2 : decode cX2_detentsToEntry 2 = .ok (.invokevirtual 100, 3) := by decide +kernel
theorem dX2_detentsToEntry_5 : decode cX2_detentsToEntry 5 = .ok (.iconst 1, 1) := by decide +kernel
theorem dX2_detentsToEntry_6 : decode cX2_detentsToEntry 6 = .ok (.if_icmp .ne 13, 3) := by decide +kernel
theorem dX2_detentsToEntry_9 : decode cX2_detentsToEntry 9 = .ok (.iload_n 1, 1) := by decide +kernel
theorem dX2_detentsToEntry_10 : decode cX2_detentsToEntry 10 = .ok (.iload_n 2, 1) := by decide +kernel
theorem dX2_detentsToEntry_11 : decode cX2_detentsToEntry 11 = .ok (.iload_n 1, 1) := by decide +kernel
theorem dX2_detentsToEntry_12 : decode cX2_detentsToEntry 12 = .ok (.isub, 1) := by decide +kernel
theorem dX2_detentsToEntry_13 : decode cX2_detentsToEntry 13 = .ok (.invokestatic 103, 3) := by decide +kernel
theorem dX2_detentsToEntry_16 : decode cX2_detentsToEntry 16 = .ok (.goto 4, 3) := by decide +kernel
theorem dX2_detentsToEntry_19 : decode cX2_detentsToEntry 19 = .ok (.iload_n 1, 1) := by decide +kernel
theorem dX2_detentsToEntry_20 : decode cX2_detentsToEntry 20 = .ok (.ireturn, 1) := by decide +kernel
theorem dX3_init_0 : decode cX3_init 0 = .ok (.aload_n 0, 1) := by decide +kernel
theorem dX3_init_1 : decode cX3_init 1 = .ok (.invokespecial 3, 3) := by decide +kernel
theorem dX3_init_4 : decode cX3_init 4 = .ok (.aload_n 0, 1) := by decide +kernel
theorem dX3_init_5 : decode cX3_init 5 = .ok (.bipush 8, 2) := by decide +kernel
theorem dX3_init_7 : decode cX3_init 7 = .ok (.anewarray 9, 3) := by decide +kernel
theorem dX3_init_10 : decode cX3_init 10 = .ok (.putfield 11, 3) := by decide +kernel
theorem dX3_init_13 : decode cX3_init 13 = .ok (.aload_n 0, 1) := by decide +kernel
theorem dX3_init_14 : decode cX3_init 14 = .ok (.bipush 8, 2) := by decide +kernel
theorem dX3_init_16 : decode cX3_init 16 = .ok (.newarray .int, 2) := by decide +kernel
theorem dX3_init_18 : decode cX3_init 18 = .ok (.putfield 17, 3) := by decide +kernel
theorem dX3_init_21 : decode cX3_init 21 = .ok (.return_, 1) := by decide +kernel
theorem dX3_keep_0 : decode cX3_keep 0 = .ok (.aload_n 0, 1) := by decide +kernel
theorem dX3_keep_1 : decode cX3_keep 1 = .ok (.getfield 21, 3) := by decide +kernel
theorem dX3_keep_4 : decode cX3_keep 4 = .ok (.bipush 8, 2) := by decide +kernel
theorem dX3_keep_6 : decode cX3_keep 6 = .ok (.if_icmp .lt 7, 3) := by decide +kernel
theorem dX3_keep_9 : decode cX3_keep 9 = .ok (.aload_n 0, 1) := by decide +kernel
theorem dX3_keep_10 : decode cX3_keep 10 = .ok (.invokevirtual 25, 3) := by decide +kernel
theorem dX3_keep_13 : decode cX3_keep 13 = .ok (.aload_n 0, 1) := by decide +kernel
theorem dX3_keep_14 : decode cX3_keep 14 = .ok (.getfield 21, 3) := by decide +kernel
theorem dX3_keep_17 : decode cX3_keep 17 = .ok (.ifCond .lt 57, 3) := by decide +kernel
theorem dX3_keep_20 : decode cX3_keep 20 = .ok (.aload_n 0, 1) := by decide +kernel
theorem dX3_keep_21 : decode cX3_keep 21 = .ok (.getfield 21, 3) := by decide +kernel
theorem dX3_keep_24 : decode cX3_keep 24 = .ok (.aload_n 0, 1) := by decide +kernel
theorem dX3_keep_25 : decode cX3_keep 25 = .ok (.getfield 11, 3) := by decide +kernel
theorem dX3_keep_28 : decode cX3_keep 28 = .ok (.arraylength, 1) := by decide +kernel
theorem dX3_keep_29 : decode cX3_keep 29 = .ok (.if_icmp .ge 45, 3) := by decide +kernel
theorem dX3_keep_32 : decode cX3_keep 32 = .ok (.aload_n 0, 1) := by decide +kernel
theorem dX3_keep_33 : decode cX3_keep 33 = .ok (.getfield 21, 3) := by decide +kernel
theorem dX3_keep_36 : decode cX3_keep 36 = .ok (.aload_n 0, 1) := by decide +kernel
theorem dX3_keep_37 : decode cX3_keep 37 = .ok (.getfield 17, 3) := by decide +kernel
theorem dX3_keep_40 : decode cX3_keep 40 = .ok (.arraylength, 1) := by decide +kernel
theorem dX3_keep_41 : decode cX3_keep 41 = .ok (.if_icmp .ge 33, 3) := by decide +kernel
theorem dX3_keep_44 : decode cX3_keep 44 = .ok (.aload_n 0, 1) := by decide +kernel
theorem dX3_keep_45 : decode cX3_keep 45 = .ok (.getfield 11, 3) := by decide +kernel
theorem dX3_keep_48 : decode cX3_keep 48 = .ok (.aload_n 0, 1) := by decide +kernel
theorem dX3_keep_49 : decode cX3_keep 49 = .ok (.getfield 21, 3) := by decide +kernel
theorem dX3_keep_52 : decode cX3_keep 52 = .ok (.aload_n 1, 1) := by decide +kernel
theorem dX3_keep_53 : decode cX3_keep 53 = .ok (.aastore, 1) := by decide +kernel
theorem dX3_keep_54 : decode cX3_keep 54 = .ok (.aload_n 0, 1) := by decide +kernel
theorem dX3_keep_55 : decode cX3_keep 55 = .ok (.getfield 17, 3) := by decide +kernel
theorem dX3_keep_58 : decode cX3_keep 58 = .ok (.aload_n 0, 1) := by decide +kernel
theorem dX3_keep_59 : decode cX3_keep 59 = .ok (.getfield 21, 3) := by decide +kernel
theorem dX3_keep_62 : decode cX3_keep 62 = .ok (.iload_n 2, 1) := by decide +kernel
theorem dX3_keep_63 : decode cX3_keep 63 = .ok (.iastore, 1) := by decide +kernel
theorem dX3_keep_64 : decode cX3_keep 64 = .ok (.aload_n 0, 1) := by decide +kernel
theorem dX3_keep_65 : decode cX3_keep 65 = .ok (.dup, 1) := by decide +kernel
theorem dX3_keep_66 : decode cX3_keep 66 = .ok (.getfield 21, 3) := by decide +kernel
theorem dX3_keep_69 : decode cX3_keep 69 = .ok (.iconst 1, 1) := by decide +kernel
theorem dX3_keep_70 : decode cX3_keep 70 = .ok (.iadd, 1) := by decide +kernel
theorem dX3_keep_71 : decode cX3_keep 71 = .ok (.putfield 21, 3) := by decide +kernel
theorem dX3_keep_74 : decode cX3_keep 74 = .ok (.return_, 1) := by decide +kernel
theorem dX3_removeOldest_0 : decode cX3_removeOldest 0 = .ok (.iconst 1, 1) := by decide +kernel
theorem dX3_removeOldest_1 : decode cX3_removeOldest 1 = .ok (.istore_n 1, 1) := by decide +kernel
theorem dX3_removeOldest_2 : decode cX3_removeOldest 2 = .ok (.iload_n 1, 1) := by decide +kernel
theorem dX3_removeOldest_3 : decode cX3_removeOldest 3 = .ok (.aload_n 0, 1) := by decide +kernel
theorem dX3_removeOldest_4 : decode cX3_removeOldest 4 = .ok (.getfield 11, 3) := by decide +kernel
theorem dX3_removeOldest_7 : decode cX3_removeOldest 7 = .ok (.arraylength, 1) := by decide +kernel
theorem dX3_removeOldest_8 : decode cX3_removeOldest 8 = .ok (.if_icmp .ge 46, 3) := by decide +kernel
theorem dX3_removeOldest_11 : decode cX3_removeOldest 11 = .ok (.iload_n 1, 1) := by decide +kernel
theorem dX3_removeOldest_12 : decode cX3_removeOldest 12 = .ok (.aload_n 0, 1) := by decide +kernel
theorem dX3_removeOldest_13 : decode cX3_removeOldest 13 = .ok (.getfield 17, 3) := by decide +kernel
theorem dX3_removeOldest_16 : decode cX3_removeOldest 16 = .ok (.arraylength, 1) := by decide +kernel
theorem dX3_removeOldest_17 : decode cX3_removeOldest 17 = .ok (.if_icmp .ge 37, 3) := by decide +kernel
theorem dX3_removeOldest_20 : decode cX3_removeOldest 20 = .ok (.aload_n 0, 1) := by decide +kernel
theorem dX3_removeOldest_21 : decode cX3_removeOldest 21 = .ok (.getfield 11, 3) := by decide +kernel
theorem dX3_removeOldest_24 : decode cX3_removeOldest 24 = .ok (.iload_n 1, 1) := by decide +kernel
theorem dX3_removeOldest_25 : decode cX3_removeOldest 25 = .ok (.iconst 1, 1) := by decide +kernel
theorem dX3_removeOldest_26 : decode cX3_removeOldest 26 = .ok (.isub, 1) := by decide +kernel
theorem dX3_removeOldest_27 : decode cX3_removeOldest 27 = .ok (.aload_n 0, 1) := by decide +kernel
theorem dX3_removeOldest_28 : decode cX3_removeOldest 28 = .ok (.getfield 11, 3) := by decide +kernel
theorem dX3_removeOldest_31 : decode cX3_removeOldest 31 = .ok (.iload_n 1, 1) := by decide +kernel
theorem dX3_removeOldest_32 : decode cX3_removeOldest 32 = .ok (.aaload, 1) := by decide +kernel
theorem dX3_removeOldest_33 : decode cX3_removeOldest 33 = .ok (.aastore, 1) := by decide +kernel
theorem dX3_removeOldest_34 : decode cX3_removeOldest 34 = .ok (.aload_n 0, 1) := by decide +kernel
theorem dX3_removeOldest_35 : decode cX3_removeOldest 35 = .ok (.getfield 17, 3) := by decide +kernel
theorem dX3_removeOldest_38 : decode cX3_removeOldest 38 = .ok (.iload_n 1, 1) := by decide +kernel
theorem dX3_removeOldest_39 : decode cX3_removeOldest 39 = .ok (.iconst 1, 1) := by decide +kernel
theorem dX3_removeOldest_40 : decode cX3_removeOldest 40 = .ok (.isub, 1) := by decide +kernel
theorem dX3_removeOldest_41 : decode cX3_removeOldest 41 = .ok (.aload_n 0, 1) := by decide +kernel
theorem dX3_removeOldest_42 : decode cX3_removeOldest 42 = .ok (.getfield 17, 3) := by decide +kernel
theorem dX3_removeOldest_45 : decode cX3_removeOldest 45 = .ok (.iload_n 1, 1) := by decide +kernel
theorem dX3_removeOldest_46 : decode cX3_removeOldest 46 = .ok (.iaload, 1) := by decide +kernel
theorem dX3_removeOldest_47 : decode cX3_removeOldest 47 = .ok (.iastore, 1) := by decide +kernel
theorem dX3_removeOldest_48 : decode cX3_removeOldest 48 = .ok (.iinc 1 1, 3) := by decide +kernel
theorem dX3_removeOldest_51 : decode cX3_removeOldest 51 = .ok (.goto (-49), 3) := by decide +kernel
theorem dX3_removeOldest_54 : decode cX3_removeOldest 54 = .ok (.aload_n 0, 1) := by decide +kernel
theorem dX3_removeOldest_55 : decode cX3_removeOldest 55 = .ok (.invokevirtual 28, 3) := by decide +kernel
theorem dX3_removeOldest_58 : decode cX3_removeOldest 58 = .ok (.return_, 1) := by decide +kernel
theorem dX3_latestItem_0 : decode cX3_latestItem 0 = .ok (.aload_n 0, 1) := by decide +kernel
theorem dX3_latestItem_1 : decode cX3_latestItem 1 = .ok (.getfield 21, 3) := by decide +kernel
theorem dX3_latestItem_4 : decode cX3_latestItem 4 = .ok (.ifCond .le 29, 3) := by decide +kernel
theorem dX3_latestItem_7 : decode cX3_latestItem 7 = .ok (.aload_n 0, 1) := by decide +kernel
theorem dX3_latestItem_8 : decode cX3_latestItem 8 = .ok (.getfield 21, 3) := by decide +kernel
theorem dX3_latestItem_11 : decode cX3_latestItem 11 = .ok (.aload_n 0, 1) := by decide +kernel
theorem dX3_latestItem_12 : decode cX3_latestItem 12 = .ok (.getfield 11, 3) := by decide +kernel
theorem dX3_latestItem_15 : decode cX3_latestItem 15 = .ok (.arraylength, 1) := by decide +kernel
theorem dX3_latestItem_16 : decode cX3_latestItem 16 = .ok (.if_icmp .gt 17, 3) := by decide +kernel
theorem dX3_latestItem_19 : decode cX3_latestItem 19 = .ok (.aload_n 0, 1) := by decide +kernel
theorem dX3_latestItem_20 : decode cX3_latestItem 20 = .ok (.getfield 11, 3) := by decide +kernel
theorem dX3_latestItem_23 : decode cX3_latestItem 23 = .ok (.aload_n 0, 1) := by decide +kernel
theorem dX3_latestItem_24 : decode cX3_latestItem 24 = .ok (.getfield 21, 3) := by decide +kernel
theorem dX3_latestItem_27 : decode cX3_latestItem 27 = .ok (.iconst 1, 1) := by decide +kernel
theorem dX3_latestItem_28 : decode cX3_latestItem 28 = .ok (.isub, 1) := by decide +kernel
theorem dX3_latestItem_29 : decode cX3_latestItem 29 = .ok (.aaload, 1) := by decide +kernel
theorem dX3_latestItem_30 : decode cX3_latestItem 30 = .ok (.goto 4, 3) := by decide +kernel
theorem dX3_latestItem_33 : decode cX3_latestItem 33 = .ok (.aconst_null, 1) := by decide +kernel
theorem dX3_latestItem_34 : decode cX3_latestItem 34 = .ok (.areturn, 1) := by decide +kernel
theorem dX3_latestValue_0 : decode cX3_latestValue 0 = .ok (.aload_n 0, 1) := by decide +kernel
theorem dX3_latestValue_1 : decode cX3_latestValue 1 = .ok (.getfield 21, 3) := by decide +kernel
theorem dX3_latestValue_4 : decode cX3_latestValue 4 = .ok (.ifCond .le 29, 3) := by decide +kernel
theorem dX3_latestValue_7 : decode cX3_latestValue 7 = .ok (.aload_n 0, 1) := by decide +kernel
theorem dX3_latestValue_8 : decode cX3_latestValue 8 = .ok (.getfield 21, 3) := by decide +kernel
theorem dX3_latestValue_11 : decode cX3_latestValue 11 = .ok (.aload_n 0, 1) := by decide +kernel
theorem dX3_latestValue_12 : decode cX3_latestValue 12 = .ok (.getfield 17, 3) := by decide +kernel
theorem dX3_latestValue_15 : decode cX3_latestValue 15 = .ok (.arraylength, 1) := by decide +kernel
theorem dX3_latestValue_16 : decode cX3_latestValue 16 = .ok (.if_icmp .gt 17, 3) := by decide +kernel
theorem dX3_latestValue_19 : decode cX3_latestValue 19 = .ok (.aload_n 0, 1) := by decide +kernel
theorem dX3_latestValue_20 : decode cX3_latestValue 20 = .ok (.getfield 17, 3) := by decide +kernel
theorem dX3_latestValue_23 : decode cX3_latestValue 23 = .ok (.aload_n 0, 1) := by decide +kernel
theorem dX3_latestValue_24 : decode cX3_latestValue 24 = .ok (.getfield 21, 3) := by decide +kernel
theorem dX3_latestValue_27 : decode cX3_latestValue 27 = .ok (.iconst 1, 1) := by decide +kernel
theorem dX3_latestValue_28 : decode cX3_latestValue 28 = .ok (.isub, 1) := by decide +kernel
theorem dX3_latestValue_29 : decode cX3_latestValue 29 = .ok (.iaload, 1) := by decide +kernel
theorem dX3_latestValue_30 : decode cX3_latestValue 30 = .ok (.goto 4, 3) := by decide +kernel
theorem dX3_latestValue_33 : decode cX3_latestValue 33 = .ok (.iconst 0, 1) := by decide +kernel
theorem dX3_latestValue_34 : decode cX3_latestValue 34 = .ok (.ireturn, 1) := by decide +kernel
theorem dX3_removeLatest_0 : decode cX3_removeLatest 0 = .ok (.aload_n 0, 1) := by decide +kernel
theorem dX3_removeLatest_1 : decode cX3_removeLatest 1 = .ok (.getfield 21, 3) := by decide +kernel
theorem dX3_removeLatest_4 : decode cX3_removeLatest 4 = .ok (.ifCond .le 13, 3) := by decide +kernel
theorem dX3_removeLatest_7 : decode cX3_removeLatest 7 = .ok (.aload_n 0, 1) := by decide +kernel
theorem dX3_removeLatest_8 : decode cX3_removeLatest 8 = .ok (.dup, 1) := by decide +kernel
theorem dX3_removeLatest_9 : decode cX3_removeLatest 9 = .ok (.getfield 21, 3) := by decide +kernel
theorem dX3_removeLatest_12 : decode cX3_removeLatest 12 = .ok (.iconst 1, 1) := by decide +kernel
theorem dX3_removeLatest_13 : decode cX3_removeLatest 13 = .ok (.isub, 1) := by decide +kernel
theorem dX3_removeLatest_14 : decode cX3_removeLatest 14 = .ok (.putfield 21, 3) := by decide +kernel
theorem dX3_removeLatest_17 : decode cX3_removeLatest 17 = .ok (.return_, 1) := by decide +kernel
theorem dX3_removeAll_0 : decode cX3_removeAll 0 = .ok (.aload_n 0, 1) := by decide +kernel
theorem dX3_removeAll_1 : decode cX3_removeAll 1 = .ok (.iconst 0, 1) := by decide +kernel
theorem dX3_removeAll_2 : decode cX3_removeAll 2 = .ok (.putfield 21, 3) := by decide +kernel
theorem dX3_removeAll_5 : decode cX3_removeAll 5 = .ok (.return_, 1) := by decide +kernel
theorem dX4_init_0 : decode cX4_init 0 = .ok (.aload_n 0, 1) := by decide +kernel
theorem dX4_init_1 : decode cX4_init 1 = .ok (.invokespecial 3, 3) := by decide +kernel
theorem dX4_init_4 : decode cX4_init 4 = .ok (.aload_n 0, 1) := by decide +kernel
theorem dX4_init_5 : decode cX4_init 5 = .ok (.iload_n 1, 1) := by decide +kernel
theorem dX4_init_6 : decode cX4_init 6 = .ok (.putfield 9, 3) := by decide +kernel
theorem dX4_init_9 : decode cX4_init 9 = .ok (.aload_n 0, 1) := by decide +kernel
theorem dX4_init_10 : decode cX4_init 10 = .ok (.iload_n 2, 1) := by decide +kernel
theorem dX4_init_11 : decode cX4_init 11 = .ok (.putfield 15, 3) := by decide +kernel
theorem dX4_init_14 : decode cX4_init 14 = .ok (.aload_n 0, 1) := by decide +kernel
theorem dX4_init_15 : decode cX4_init 15 = .ok (.aload_n 3, 1) := by decide +kernel
theorem dX4_init_16 : decode cX4_init 16 = .ok (.putfield 18, 3) := by decide +kernel
theorem dX4_init_19 : decode cX4_init 19 = .ok (.aload_n 0, 1) := by decide +kernel
theorem dX4_init_20 : decode cX4_init 20 = .ok (.aload_n 3, 1) := by decide +kernel
theorem dX4_init_21 : decode cX4_init 21 = .ok (.ifnonnull 7, 3) := by decide +kernel
theorem dX4_init_24 : decode cX4_init 24 = .ok (.iconst 0, 1) := by decide +kernel
theorem dX4_init_25 : decode cX4_init 25 = .ok (.goto 9, 3) := by decide +kernel
theorem dX4_init_28 : decode cX4_init 28 = .ok (.aload_n 3, 1) := by decide +kernel
theorem dX4_init_29 : decode cX4_init 29 = .ok (.getfield 22, 3) := by decide +kernel
theorem dX4_init_32 : decode cX4_init 32 = .ok (.iconst 1, 1) := by decide +kernel
theorem dX4_init_33 : decode cX4_init 33 = .ok (.iadd, 1) := by decide +kernel
theorem dX4_init_34 : decode cX4_init 34 = .ok (.putfield 22, 3) := by decide +kernel
theorem dX4_init_37 : decode cX4_init 37 = .ok (.aload_n 0, 1) := by decide +kernel
theorem dX4_init_38 : decode cX4_init 38 = .ok (.aload_n 3, 1) := by decide +kernel
theorem dX4_init_39 : decode cX4_init 39 = .ok (.ifnonnull 7, 3) := by decide +kernel
theorem dX4_init_42 : decode cX4_init 42 = .ok (.iconst 0, 1) := by decide +kernel
theorem dX4_init_43 : decode cX4_init 43 = .ok (.goto 7, 3) := by decide +kernel
theorem dX4_init_46 : decode cX4_init 46 = .ok (.aload_n 3, 1) := by decide +kernel
theorem dX4_init_47 : decode cX4_init 47 = .ok (.getfield 25, 3) := by decide +kernel
theorem dX4_init_50 : decode cX4_init 50 = .ok (.putfield 28, 3) := by decide +kernel
theorem dX4_init_53 : decode cX4_init 53 = .ok (.aload_n 0, 1) := by decide +kernel
theorem dX4_init_54 : decode cX4_init 54 = .ok (.iload 4, 2) := by decide +kernel
theorem dX4_init_56 : decode cX4_init 56 = .ok (.putfield 31, 3) := by decide +kernel
theorem dX4_init_59 : decode cX4_init 59 = .ok (.aload_n 0, 1) := by decide +kernel
theorem dX4_init_60 : decode cX4_init 60 = .ok (.iload 5, 2) := by decide +kernel
theorem dX4_init_62 : decode cX4_init 62 = .ok (.putfield 34, 3) := by decide +kernel
theorem dX4_init_65 : decode cX4_init 65 = .ok (.aload_n 0, 1) := by decide +kernel
theorem dX4_init_66 : decode cX4_init 66 = .ok (.iload 6, 2) := by decide +kernel
theorem dX4_init_68 : decode cX4_init 68 = .ok (.putfield 37, 3) := by decide +kernel
theorem dX4_init_71 : decode cX4_init 71 = .ok (.aload_n 0, 1) := by decide +kernel
theorem dX4_init_72 : decode cX4_init 72 = .ok (.bipush 8, 2) := by decide +kernel
theorem dX4_init_74 : decode cX4_init 74 = .ok (.anewarray 10, 3) := by decide +kernel
theorem dX4_init_77 : decode cX4_init 77 = .ok (.putfield 40, 3) := by decide +kernel
theorem dX4_init_80 : decode cX4_init 80 = .ok (.aload_n 0, 1) := by decide +kernel
theorem dX4_init_81 : decode cX4_init 81 = .ok (.iload 4, 2) := by decide +kernel
theorem dX4_init_83 : decode cX4_init 83 = .ok (.putfield 44, 3) := by decide +kernel
theorem dX4_init_86 : decode cX4_init 86 = .ok (.aload_n 0, 1) := by decide +kernel
theorem dX4_init_87 : decode cX4_init 87 = .ok (.iconst (-1), 1) := by decide +kernel
theorem dX4_init_88 : decode cX4_init 88 = .ok (.putfield 47, 3) := by decide +kernel
theorem dX4_init_91 : decode cX4_init 91 = .ok (.return_, 1) := by decide +kernel
theorem dX4_locked_0 : decode cX4_locked 0 = .ok (.aload_n 0, 1) := by decide +kernel
theorem dX4_locked_1 : decode cX4_locked 1 = .ok (.getfield 47, 3) := by decide +kernel
theorem dX4_locked_4 : decode cX4_locked 4 = .ok (.iconst (-1), 1) := by decide +kernel
theorem dX4_locked_5 : decode cX4_locked 5 = .ok (.if_icmp .eq 7, 3) := by decide +kernel
theorem dX4_locked_8 : decode cX4_locked 8 = .ok (.iconst 1, 1) := by decide +kernel
theorem dX4_locked_9 : decode cX4_locked 9 = .ok (.goto 4, 3) := by decide +kernel
theorem dX4_locked_12 : decode cX4_locked 12 = .ok (.iconst 0, 1) := by decide +kernel
theorem dX4_locked_13 : decode cX4_locked 13 = .ok (.ireturn, 1) := by decide +kernel
theorem dX4_closed_0 : decode cX4_closed 0 = .ok (.aload_n 0, 1) := by decide +kernel
theorem dX4_closed_1 : decode cX4_closed 1 = .ok (.invokevirtual 50, 3) := by decide +kernel
theorem dX4_closed_4 : decode cX4_closed 4 = .ok (.ifCond .eq 14, 3) := by decide +kernel
theorem dX4_closed_7 : decode cX4_closed 7 = .ok (.aload_n 0, 1) := by decide +kernel
theorem dX4_closed_8 : decode cX4_closed 8 = .ok (.getfield 54, 3) := by decide +kernel
theorem dX4_closed_11 : decode cX4_closed 11 = .ok (.ifCond .ne 7, 3) := by decide +kernel
theorem dX4_closed_14 : decode cX4_closed 14 = .ok (.iconst 1, 1) := by decide +kernel
theorem dX4_closed_15 : decode cX4_closed 15 = .ok (.goto 4, 3) := by decide +kernel
theorem dX4_closed_18 : decode cX4_closed 18 = .ok (.iconst 0, 1) := by decide +kernel
theorem dX4_closed_19 : decode cX4_closed 19 = .ok (.ireturn, 1) := by decide +kernel
theorem dX4_entries_0 : decode cX4_entries 0 = .ok (.aload_n 0, 1) := by decide +kernel
theorem dX4_entries_1 : decode cX4_entries 1 = .ok (.getfield 18, 3) := by decide +kernel
theorem dX4_entries_4 : decode cX4_entries 4 = .ok (.ifnonnull 10, 3) := by decide +kernel
theorem dX4_entries_7 : decode cX4_entries 7 = .ok (.aload_n 0, 1) := by decide +kernel
theorem dX4_entries_8 : decode cX4_entries 8 = .ok (.getfield 25, 3) := by decide +kernel
theorem dX4_entries_11 : decode cX4_entries 11 = .ok (.goto 9, 3) := by decide +kernel
theorem dX4_entries_14 : decode cX4_entries 14 = .ok (.aload_n 0, 1) := by decide +kernel
theorem dX4_entries_15 : decode cX4_entries 15 = .ok (.getfield 25, 3) := by decide +kernel
theorem dX4_entries_18 : decode cX4_entries 18 = .ok (.iconst 1, 1) := by decide +kernel
theorem dX4_entries_19 : decode cX4_entries 19 = .ok (.iadd, 1) := by decide +kernel
theorem dX4_entries_20 : decode cX4_entries 20 = .ok (.ireturn, 1) := by decide +kernel
theorem dX4_childAt_0 : decode cX4_childAt 0 = .ok (.iload_n 1, 1) := by decide +kernel
theorem dX4_childAt_1 : decode cX4_childAt 1 = .ok (.ifCond .lt 29, 3) := by decide +kernel
theorem dX4_childAt_4 : decode cX4_childAt 4 = .ok (.iload_n 1, 1) := by decide +kernel
theorem dX4_childAt_5 : decode cX4_childAt 5 = .ok (.aload_n 0, 1) := by decide +kernel
theorem dX4_childAt_6 : decode cX4_childAt 6 = .ok (.getfield 25, 3) := by decide +kernel
theorem dX4_childAt_9 : decode cX4_childAt 9 = .ok (.if_icmp .ge 21, 3) := by decide +kernel
theorem dX4_childAt_12 : decode cX4_childAt 12 = .ok (.iload_n 1, 1) := by decide +kernel
theorem dX4_childAt_13 : decode cX4_childAt 13 = .ok (.aload_n 0, 1) := by decide +kernel
theorem dX4_childAt_14 : decode cX4_childAt 14 = .ok (.getfield 40, 3) := by decide +kernel
theorem dX4_childAt_17 : decode cX4_childAt 17 = .ok (.arraylength, 1) := by decide +kernel
theorem dX4_childAt_18 : decode cX4_childAt 18 = .ok (.if_icmp .ge 12, 3) := by decide +kernel
theorem dX4_childAt_21 : decode cX4_childAt 21 = .ok (.aload_n 0, 1) := by decide +kernel
theorem dX4_childAt_22 : decode cX4_childAt 22 = .ok (.getfield 40, 3) := by decide +kernel
theorem dX4_childAt_25 : decode cX4_childAt 25 = .ok (.iload_n 1, 1) := by decide +kernel
theorem dX4_childAt_26 : decode cX4_childAt 26 = .ok (.aaload, 1) := by decide +kernel
theorem dX4_childAt_27 : decode cX4_childAt 27 = .ok (.goto 4, 3) := by decide +kernel
theorem dX4_childAt_30 : decode cX4_childAt 30 = .ok (.aconst_null, 1) := by decide +kernel
theorem dX4_childAt_31 : decode cX4_childAt 31 = .ok (.areturn, 1) := by decide +kernel
theorem dX4_keepChild_0 : decode cX4_keepChild 0 = .ok (.aload_n 0, 1) := by decide +kernel
theorem dX4_keepChild_1 : decode cX4_keepChild 1 = .ok (.getfield 25, 3) := by decide +kernel
theorem dX4_keepChild_4 : decode cX4_keepChild 4 = .ok (.ifCond .lt 35, 3) := by decide +kernel
theorem dX4_keepChild_7 : decode cX4_keepChild 7 = .ok (.aload_n 0, 1) := by decide +kernel
theorem dX4_keepChild_8 : decode cX4_keepChild 8 = .ok (.getfield 25, 3) := by decide +kernel
theorem dX4_keepChild_11 : decode cX4_keepChild 11 = .ok (.aload_n 0, 1) := by decide +kernel
theorem dX4_keepChild_12 : decode cX4_keepChild 12 = .ok (.getfield 40, 3) := by decide +kernel
theorem dX4_keepChild_15 : decode cX4_keepChild 15 = .ok (.arraylength, 1) := by decide +kernel
theorem dX4_keepChild_16 : decode cX4_keepChild 16 = .ok (.if_icmp .ge 23, 3) := by decide +kernel
theorem dX4_keepChild_19 : decode cX4_keepChild 19 = .ok (.aload_n 0, 1) := by decide +kernel
theorem dX4_keepChild_20 : decode cX4_keepChild 20 = .ok (.getfield 40, 3) := by decide +kernel
theorem dX4_keepChild_23 : decode cX4_keepChild 23 = .ok (.aload_n 0, 1) := by decide +kernel
theorem dX4_keepChild_24 : decode cX4_keepChild 24 = .ok (.getfield 25, 3) := by decide +kernel
theorem dX4_keepChild_27 : decode cX4_keepChild 27 = .ok (.aload_n 1, 1) := by decide +kernel
theorem dX4_keepChild_28 : decode cX4_keepChild 28 = .ok (.aastore, 1) := by decide +kernel
theorem dX4_keepChild_29 : decode cX4_keepChild 29 = .ok (.aload_n 0, 1) := by decide +kernel
theorem dX4_keepChild_30 : decode cX4_keepChild 30 = .ok (.dup, 1) := by decide +kernel
theorem dX4_keepChild_31 : decode cX4_keepChild 31 = .ok (.getfield 25, 3) := by decide +kernel
theorem dX4_keepChild_34 : decode cX4_keepChild 34 = .ok (.iconst 1, 1) := by decide +kernel
theorem dX4_keepChild_35 : decode cX4_keepChild 35 = .ok (.iadd, 1) := by decide +kernel
theorem dX4_keepChild_36 : decode cX4_keepChild 36 = .ok (.putfield 25, 3) := by decide +kernel
theorem dX4_keepChild_39 : decode cX4_keepChild 39 = .ok (.return_, 1) := by decide +kernel
theorem dX5_init_0 : decode cX5_init 0 = .ok (.aload_n 0, 1) := by decide +kernel
theorem dX5_init_1 : decode cX5_init 1 = .ok (.invokespecial 3, 3) := by decide +kernel
theorem dX5_init_4 : decode cX5_init 4 = .ok (.aload_n 0, 1) := by decide +kernel
theorem dX5_init_5 : decode cX5_init 5 = .ok (.bipush 24, 2) := by decide +kernel
theorem dX5_init_7 : decode cX5_init 7 = .ok (.newarray .int, 2) := by decide +kernel
theorem dX5_init_9 : decode cX5_init 9 = .ok (.putfield 9, 3) := by decide +kernel
theorem dX5_init_12 : decode cX5_init 12 = .ok (.return_, 1) := by decide +kernel
theorem dX5_save_0 : decode cX5_save 0 = .ok (.iconst 0, 1) := by decide +kernel
theorem dX5_save_1 : decode cX5_save 1 = .ok (.istore_n 2, 1) := by decide +kernel
theorem dX5_save_2 : decode cX5_save 2 = .ok (.iconst 0, 1) := by decide +kernel
theorem dX5_save_3 : decode cX5_save 3 = .ok (.istore_n 3, 1) := by decide +kernel
theorem dX5_save_4 : decode cX5_save 4 = .ok (.iload_n 3, 1) := by decide +kernel
theorem dX5_save_5 : decode cX5_save 5 = .ok (.aload_n 1, 1) := by decide +kernel
theorem dX5_save_6 : decode cX5_save 6 = .ok (.getfield 15, 3) := by decide +kernel
theorem dX5_save_9 : decode cX5_save 9 = .ok (.if_icmp .ge 52, 3) := by decide +kernel
theorem dX5_save_12 : decode cX5_save 12 = .ok (.iload_n 3, 1) := by decide +kernel
theorem dX5_save_13 : decode cX5_save 13 = .ok (.aload_n 0, 1) := by decide +kernel
theorem dX5_save_14 : decode cX5_save 14 = .ok (.getfield 9, 3) := by decide +kernel
theorem dX5_save_17 : decode cX5_save 17 = .ok (.arraylength, 1) := by decide +kernel
theorem dX5_save_18 : decode cX5_save 18 = .ok (.if_icmp .ge 43, 3) := by decide +kernel
theorem dX5_save_21 : decode cX5_save 21 = .ok (.aload_n 1, 1) := by decide +kernel
theorem dX5_save_22 : decode cX5_save 22 = .ok (.iload_n 3, 1) := by decide +kernel
theorem dX5_save_23 : decode cX5_save 23 = .ok (.invokevirtual 21, 3) := by decide +kernel
theorem dX5_save_26 : decode cX5_save 26 = .ok (.astore 4, 2) := by decide +kernel
theorem dX5_save_28 : decode cX5_save 28 = .ok (.aload 4, 2) := by decide +kernel
theorem dX5_save_30 : decode cX5_save 30 = .ok (.ifnull 25, 3) := by decide +kernel
theorem dX5_save_33 : decode cX5_save 33 = .ok (.aload 4, 2) := by decide +kernel
theorem dX5_save_35 : decode cX5_save 35 = .ok (.getfield 25, 3) := by decide +kernel
theorem dX5_save_38 : decode cX5_save 38 = .ok (.ifCond .eq 17, 3) := by decide +kernel
theorem dX5_save_41 : decode cX5_save 41 = .ok (.aload_n 0, 1) := by decide +kernel
theorem dX5_save_42 : decode cX5_save 42 = .ok (.getfield 9, 3) := by decide +kernel
theorem dX5_save_45 : decode cX5_save 45 = .ok (.iload_n 3, 1) := by decide +kernel
theorem dX5_save_46 : decode cX5_save 46 = .ok (.aload 4, 2) := by decide +kernel
theorem dX5_save_48 : decode cX5_save 48 = .ok (.getfield 30, 3) := by decide +kernel
theorem dX5_save_51 : decode cX5_save 51 = .ok (.iastore, 1) := by decide +kernel
theorem dX5_save_52 : decode cX5_save 52 = .ok (.iinc 2 1, 3) := by decide +kernel
theorem dX5_save_55 : decode cX5_save 55 = .ok (.iinc 3 1, 3) := by decide +kernel
theorem dX5_save_58 : decode cX5_save 58 = .ok (.goto (-54), 3) := by decide +kernel
theorem dX5_save_61 : decode cX5_save 61 = .ok (.aload_n 0, 1) := by decide +kernel
theorem dX5_save_62 : decode cX5_save 62 = .ok (.aload_n 1, 1) := by decide +kernel
theorem dX5_save_63 : decode cX5_save 63 = .ok (.getfield 15, 3) := by decide +kernel
theorem dX5_save_66 : decode cX5_save 66 = .ok (.putfield 33, 3) := by decide +kernel
theorem dX5_save_69 : decode cX5_save 69 = .ok (.aload_n 0, 1) := by decide +kernel
theorem dX5_save_70 : decode cX5_save 70 = .ok (.iconst 1, 1) := by decide +kernel
theorem dX5_save_71 : decode cX5_save 71 = .ok (.putfield 34, 3) := by decide +kernel
theorem dX5_save_74 : decode cX5_save 74 = .ok (.iload_n 2, 1) := by decide +kernel
theorem dX5_save_75 : decode cX5_save 75 = .ok (.ireturn, 1) := by decide +kernel
theorem dX5_load_0 : decode cX5_load 0 = .ok (.iconst 0, 1) := by decide +kernel
theorem dX5_load_1 : decode cX5_load 1 = .ok (.istore_n 2, 1) := by decide +kernel
theorem dX5_load_2 : decode cX5_load 2 = .ok (.iconst 0, 1) := by decide +kernel
theorem dX5_load_3 : decode cX5_load 3 = .ok (.istore_n 3, 1) := by decide +kernel
theorem dX5_load_4 : decode cX5_load 4 = .ok (.iload_n 3, 1) := by decide +kernel
theorem dX5_load_5 : decode cX5_load 5 = .ok (.aload_n 0, 1) := by decide +kernel
theorem dX5_load_6 : decode cX5_load 6 = .ok (.getfield 33, 3) := by decide +kernel
theorem dX5_load_9 : decode cX5_load 9 = .ok (.if_icmp .ge 66, 3) := by decide +kernel
theorem dX5_load_12 : decode cX5_load 12 = .ok (.iload_n 3, 1) := by decide +kernel
theorem dX5_load_13 : decode cX5_load 13 = .ok (.aload_n 0, 1) := by decide +kernel
theorem dX5_load_14 : decode cX5_load 14 = .ok (.getfield 9, 3) := by decide +kernel
theorem dX5_load_17 : decode cX5_load 17 = .ok (.arraylength, 1) := by decide +kernel
theorem dX5_load_18 : decode cX5_load 18 = .ok (.if_icmp .ge 57, 3) := by decide +kernel
theorem dX5_load_21 : decode cX5_load 21 = .ok (.aload_n 1, 1) := by decide +kernel
theorem dX5_load_22 : decode cX5_load 22 = .ok (.iload_n 3, 1) := by decide +kernel
theorem dX5_load_23 : decode cX5_load 23 = .ok (.invokevirtual 21, 3) := by decide +kernel
theorem dX5_load_26 : decode cX5_load 26 = .ok (.astore 4, 2) := by decide +kernel
theorem dX5_load_28 : decode cX5_load 28 = .ok (.aload 4, 2) := by decide +kernel
theorem dX5_load_30 : decode cX5_load 30 = .ok (.ifnull 39, 3) := by decide +kernel
theorem dX5_load_33 : decode cX5_load 33 = .ok (.aload 4, 2) := by decide +kernel
theorem dX5_load_35 : decode cX5_load 35 = .ok (.getfield 25, 3) := by decide +kernel
theorem dX5_load_38 : decode cX5_load 38 = .ok (.ifCond .eq 31, 3) := by decide +kernel
theorem dX5_load_41 : decode cX5_load 41 = .ok (.aload 4, 2) := by decide +kernel
theorem dX5_load_43 : decode cX5_load 43 = .ok (.getfield 30, 3) := by decide +kernel
theorem dX5_load_46 : decode cX5_load 46 = .ok (.aload_n 0, 1) := by decide +kernel
theorem dX5_load_47 : decode cX5_load 47 = .ok (.getfield 9, 3) := by decide +kernel
theorem dX5_load_50 : decode cX5_load 50 = .ok (.iload_n 3, 1) := by decide +kernel
theorem dX5_load_51 : decode cX5_load 51 = .ok (.iaload, 1) := by decide +kernel
theorem dX5_load_52 : decode cX5_load 52 = .ok (.if_icmp .eq 17, 3) := by decide +kernel
theorem dX5_load_55 : decode cX5_load 55 = .ok (.aload 4, 2) := by decide +kernel
theorem dX5_load_57 : decode cX5_load 57 = .ok (.aload_n 0, 1) := by decide +kernel
theorem dX5_load_58 : decode cX5_load 58 = .ok (.getfield 9, 3) := by decide +kernel
theorem dX5_load_61 : decode cX5_load 61 = .ok (.iload_n 3, 1) := by decide +kernel
theorem dX5_load_62 : decode cX5_load 62 = .ok (.iaload, 1) := by decide +kernel
theorem dX5_load_63 : decode cX5_load 63 = .ok (.putfield 30, 3) := by decide +kernel
theorem dX5_load_66 : decode cX5_load 66 = .ok (.iinc 2 1, 3) := by decide +kernel
theorem dX5_load_69 : decode cX5_load 69 = .ok (.iinc 3 1, 3) := by decide +kernel
theorem dX5_load_72 : decode cX5_load 72 = .ok (.goto (-68), 3) := by decide +kernel
theorem dX5_load_75 : decode cX5_load 75 = .ok (.iload_n 2, 1) := by decide +kernel
theorem dX5_load_76 : decode cX5_load 76 = .ok (.ireturn, 1) := by decide +kernel
theorem dX6_init_0 : decode cX6_init 0 = .ok (.aload_n 0, 1) := by decide +kernel
theorem dX6_init_1 : decode cX6_init 1 = .ok (.invokespecial 3, 3) := by decide +kernel
theorem dX6_init_4 : decode cX6_init 4 = .ok (.aload_n 0, 1) := by decide +kernel
theorem dX6_init_5 : decode cX6_init 5 = .ok (.bipush 32, 2) := by decide +kernel
theorem dX6_init_7 : decode cX6_init 7 = .ok (.newarray .char, 2) := by decide +kernel
theorem dX6_init_9 : decode cX6_init 9 = .ok (.putfield 9, 3) := by decide +kernel
theorem dX6_init_12 : decode cX6_init 12 = .ok (.return_, 1) := by decide +kernel
theorem dX6_draw_0 : decode cX6_draw 0 = .ok (.aload_n 0, 1) := by decide +kernel
theorem dX6_draw_1 : decode cX6_draw 1 = .ok (.invokevirtual 15, 3) := by decide +kernel
theorem dX6_draw_4 : decode cX6_draw 4 = .ok (.aload_n 1, 1) := by decide +kernel
theorem dX6_draw_5 : decode cX6_draw 5 = .ok (.invokevirtual 18, 3) := by decide +kernel
theorem dX6_draw_8 : decode cX6_draw 8 = .ok (.astore_n 2, 1) := by decide +kernel
theorem dX6_draw_9 : decode cX6_draw 9 = .ok (.aload_n 1, 1) := by decide +kernel
theorem dX6_draw_10 : decode cX6_draw 10 = .ok (.getfield 24, 3) := by decide +kernel
theorem dX6_draw_13 : decode cX6_draw 13 = .ok (.iconst 1, 1) := by decide +kernel
theorem dX6_draw_14 : decode cX6_draw 14 = .ok (.if_icmp .ne 22, 3) := by decide +kernel
theorem dX6_draw_17 : decode cX6_draw 17 = .ok (.aload_n 0, 1) := by decide +kernel
theorem dX6_draw_18 : decode cX6_draw 18 = .ok (.ldc 28, 2) := by decide +kernel
theorem dX6_draw_20 : decode cX6_draw 20 = .ok (.aload_n 2, 1) := by decide +kernel
theorem dX6_draw_21 : decode cX6_draw 21 = .ok (.invokevirtual 30, 3) := by decide +kernel
theorem dX6_draw_24 : decode cX6_draw 24 = .ok (.aload_n 0, 1) := by decide +kernel
theorem dX6_draw_25 : decode cX6_draw 25 = .ok (.iconst 1, 1) := by decide +kernel
theorem dX6_draw_26 : decode cX6_draw 26 = .ok (.aload_n 1, 1) := by decide +kernel
theorem dX6_draw_27 : decode cX6_draw 27 = .ok (.getfield 34, 3) := by decide +kernel
theorem dX6_draw_30 : decode cX6_draw 30 = .ok (.invokevirtual 37, 3) := by decide +kernel
theorem dX6_draw_33 : decode cX6_draw 33 = .ok (.goto 44, 3) := by decide +kernel
theorem dX6_draw_36 : decode cX6_draw 36 = .ok (.aload_n 1, 1) := by decide +kernel
theorem dX6_draw_37 : decode cX6_draw 37 = .ok (.getfield 24, 3) := by decide +kernel
theorem dX6_draw_40 : decode cX6_draw 40 = .ok (.iconst 2, 1) := by decide +kernel
theorem dX6_draw_41 : decode cX6_draw 41 = .ok (.if_icmp .ne 18, 3) := by decide +kernel
theorem dX6_draw_44 : decode cX6_draw 44 = .ok (.aload_n 0, 1) := by decide +kernel
theorem dX6_draw_45 : decode cX6_draw 45 = .ok (.ldc 41, 2) := by decide +kernel
theorem dX6_draw_47 : decode cX6_draw 47 = .ok (.aload_n 2, 1) := by decide +kernel
theorem dX6_draw_48 : decode cX6_draw 48 = .ok (.invokevirtual 30, 3) := by decide +kernel
theorem dX6_draw_51 : decode cX6_draw 51 = .ok (.aload_n 0, 1) := by decide +kernel
theorem dX6_draw_52 : decode cX6_draw 52 = .ok (.aload_n 1, 1) := by decide +kernel
theorem dX6_draw_53 : decode cX6_draw 53 = .ok (.invokevirtual 43, 3) := by decide +kernel
theorem dX6_draw_56 : decode cX6_draw 56 = .ok (.goto 21, 3) := by decide +kernel
theorem dX6_draw_59 : decode cX6_draw 59 = .ok (.aload_n 0, 1) := by decide +kernel
theorem dX6_draw_60 : decode cX6_draw 60 = .ok (.iconst 0, 1) := by decide +kernel
theorem dX6_draw_61 : decode cX6_draw 61 = .ok (.aload_n 1, 1) := by decide +kernel
theorem dX6_draw_62 : decode cX6_draw 62 = .ok (.getfield 47, 3) := by decide +kernel
theorem dX6_draw_65 : decode cX6_draw 65 = .ok (.invokevirtual 51, 3) := by decide +kernel
theorem dX6_draw_68 : decode cX6_draw 68 = .ok (.aload_n 0, 1) := by decide +kernel
theorem dX6_draw_69 : decode cX6_draw 69 = .ok (.aload_n 1, 1) := by decide +kernel
theorem dX6_draw_70 : decode cX6_draw 70 = .ok (.getfield 47, 3) := by decide +kernel
theorem dX6_draw_73 : decode cX6_draw 73 = .ok (.aload_n 2, 1) := by decide +kernel
theorem dX6_draw_74 : decode cX6_draw 74 = .ok (.invokevirtual 55, 3) := by decide +kernel
theorem dX6_draw_77 : decode cX6_draw 77 = .ok (.return_, 1) := by decide +kernel
theorem dX6_signAt_0 : decode cX6_signAt 0 = .ok (.iload_n 1, 1) := by decide +kernel
theorem dX6_signAt_1 : decode cX6_signAt 1 = .ok (.bipush 16, 2) := by decide +kernel
theorem dX6_signAt_3 : decode cX6_signAt 3 = .ok (.imul, 1) := by decide +kernel
theorem dX6_signAt_4 : decode cX6_signAt 4 = .ok (.iload_n 2, 1) := by decide +kernel
theorem dX6_signAt_5 : decode cX6_signAt 5 = .ok (.iadd, 1) := by decide +kernel
theorem dX6_signAt_6 : decode cX6_signAt 6 = .ok (.istore_n 3, 1) := by decide +kernel
theorem dX6_signAt_7 : decode cX6_signAt 7 = .ok (.iload_n 3, 1) := by decide +kernel
theorem dX6_signAt_8 : decode cX6_signAt 8 = .ok (.ifCond .lt 21, 3) := by decide +kernel
theorem dX6_signAt_11 : decode cX6_signAt 11 = .ok (.iload_n 3, 1) := by decide +kernel
theorem dX6_signAt_12 : decode cX6_signAt 12 = .ok (.aload_n 0, 1) := by decide +kernel
theorem dX6_signAt_13 : decode cX6_signAt 13 = .ok (.getfield 9, 3) := by decide +kernel
theorem dX6_signAt_16 : decode cX6_signAt 16 = .ok (.arraylength, 1) := by decide +kernel
theorem dX6_signAt_17 : decode cX6_signAt 17 = .ok (.if_icmp .ge 12, 3) := by decide +kernel
theorem dX6_signAt_20 : decode cX6_signAt 20 = .ok (.aload_n 0, 1) := by decide +kernel
theorem dX6_signAt_21 : decode cX6_signAt 21 = .ok (.getfield 9, 3) := by decide +kernel
theorem dX6_signAt_24 : decode cX6_signAt 24 = .ok (.iload_n 3, 1) := by decide +kernel
theorem dX6_signAt_25 : decode cX6_signAt 25 = .ok (.caload, 1) := by decide +kernel
theorem dX6_signAt_26 : decode cX6_signAt 26 = .ok (.goto 5, 3) := by decide +kernel
theorem dX6_signAt_29 : decode cX6_signAt 29 = .ok (.bipush 32, 2) := by decide +kernel
theorem dX6_signAt_31 : decode cX6_signAt 31 = .ok (.ireturn, 1) := by decide +kernel
theorem dX6_clear_0 : decode cX6_clear 0 = .ok (.iconst 0, 1) := by decide +kernel
theorem dX6_clear_1 : decode cX6_clear 1 = .ok (.istore_n 1, 1) := by decide +kernel
theorem dX6_clear_2 : decode cX6_clear 2 = .ok (.iload_n 1, 1) := by decide +kernel
theorem dX6_clear_3 : decode cX6_clear 3 = .ok (.aload_n 0, 1) := by decide +kernel
theorem dX6_clear_4 : decode cX6_clear 4 = .ok (.getfield 9, 3) := by decide +kernel
theorem dX6_clear_7 : decode cX6_clear 7 = .ok (.arraylength, 1) := by decide +kernel
theorem dX6_clear_8 : decode cX6_clear 8 = .ok (.if_icmp .ge 17, 3) := by decide +kernel
theorem dX6_clear_11 : decode cX6_clear 11 = .ok (.aload_n 0, 1) := by decide +kernel
theorem dX6_clear_12 : decode cX6_clear 12 = .ok (.getfield 9, 3) := by decide +kernel
theorem dX6_clear_15 : decode cX6_clear 15 = .ok (.iload_n 1, 1) := by decide +kernel
theorem dX6_clear_16 : decode cX6_clear 16 = .ok (.bipush 32, 2) := by decide +kernel
theorem dX6_clear_18 : decode cX6_clear 18 = .ok (.castore, 1) := by decide +kernel
theorem dX6_clear_19 : decode cX6_clear 19 = .ok (.iinc 1 1, 3) := by decide +kernel
theorem dX6_clear_22 : decode cX6_clear 22 = .ok (.goto (-20), 3) := by decide +kernel
theorem dX6_clear_25 : decode cX6_clear 25 = .ok (.return_, 1) := by decide +kernel
theorem dX6_put_0 : decode cX6_put 0 = .ok (.iload_n 1, 1) := by decide +kernel
theorem dX6_put_1 : decode cX6_put 1 = .ok (.bipush 16, 2) := by decide +kernel
theorem dX6_put_3 : decode cX6_put 3 = .ok (.imul, 1) := by decide +kernel
theorem dX6_put_4 : decode cX6_put 4 = .ok (.iload_n 2, 1) := by decide +kernel
theorem dX6_put_5 : decode cX6_put 5 = .ok (.iadd, 1) := by decide +kernel
theorem dX6_put_6 : decode cX6_put 6 = .ok (.istore 4, 2) := by decide +kernel
theorem dX6_put_8 : decode cX6_put 8 = .ok (.iload 4, 2) := by decide +kernel
theorem dX6_put_10 : decode cX6_put 10 = .ok (.ifCond .lt 21, 3) := by decide +kernel
theorem dX6_put_13 : decode cX6_put 13 = .ok (.iload 4, 2) := by decide +kernel
theorem dX6_put_15 : decode cX6_put 15 = .ok (.aload_n 0, 1) := by decide +kernel
theorem dX6_put_16 : decode cX6_put 16 = .ok (.getfield 9, 3) := by decide +kernel
theorem dX6_put_19 : decode cX6_put 19 = .ok (.arraylength, 1) := by decide +kernel
theorem dX6_put_20 : decode cX6_put 20 = .ok (.if_icmp .ge 11, 3) := by decide +kernel
theorem dX6_put_23 : decode cX6_put 23 = .ok (.aload_n 0, 1) := by decide +kernel
theorem dX6_put_24 : decode cX6_put 24 = .ok (.getfield 9, 3) := by decide +kernel
theorem dX6_put_27 : decode cX6_put 27 = .ok (.iload 4, 2) := by decide +kernel
theorem dX6_put_29 : decode cX6_put 29 = .ok (.iload_n 3, 1) := by decide +kernel
theorem dX6_put_30 : decode cX6_put 30 = .ok (.castore, 1) := by decide +kernel
theorem dX6_put_31 : decode cX6_put 31 = .ok (.return_, 1) := by decide +kernel
theorem dX6_write_0 : decode cX6_write 0 = .ok (.iconst 0, 1) := by decide +kernel
theorem dX6_write_1 : decode cX6_write 1 = .ok (.istore_n 3, 1) := by decide +kernel
theorem dX6_write_2 : decode cX6_write 2 = .ok (.iload_n 3, 1) := by decide +kernel
theorem dX6_write_3 : decode cX6_write 3 = .ok (.aload_n 2, 1) := by decide +kernel
theorem dX6_write_4 : decode cX6_write 4 = .ok (.invokevirtual 59, 3) := by decide +kernel
theorem dX6_write_7 : decode cX6_write 7 = .ok (.if_icmp .ge 20, 3) := by decide +kernel
theorem dX6_write_10 : decode cX6_write 10 = .ok (.aload_n 0, 1) := by decide +kernel
theorem dX6_write_11 : decode cX6_write 11 = .ok (.iload_n 1, 1) := by decide +kernel
theorem dX6_write_12 : decode cX6_write 12 = .ok (.iload_n 3, 1) := by decide +kernel
theorem dX6_write_13 : decode cX6_write 13 = .ok (.aload_n 2, 1) := by decide +kernel
theorem dX6_write_14 : decode cX6_write 14 = .ok (.iload_n 3, 1) := by decide +kernel
theorem dX6_write_15 : decode cX6_write 15 = .ok (.invokevirtual 65, 3) := by decide +kernel
theorem dX6_write_18 : decode cX6_write 18 = .ok (.invokevirtual 69, 3) := by decide +kernel
theorem dX6_write_21 : decode cX6_write 21 = .ok (.iinc 3 1, 3) := by decide +kernel
theorem dX6_write_24 : decode cX6_write 24 = .ok (.goto (-22), 3) := by decide +kernel
theorem dX6_write_27 : decode cX6_write 27 = .ok (.aload_n 2, 1) := by decide +kernel
theorem dX6_write_28 : decode cX6_write 28 = .ok (.invokevirtual 59, 3) := by decide +kernel
theorem dX6_write_31 : decode cX6_write 31 = .ok (.ireturn, 1) := by decide +kernel
theorem dX6_writeEndingAt_0 : decode cX6_writeEndingAt 0 = .ok (.iload_n 3, 1) := by decide +kernel
theorem dX6_writeEndingAt_1 : decode cX6_writeEndingAt 1 = .ok (.invokestatic 73, 3) := by decide +kernel
theorem dX6_writeEndingAt_4 : decode cX6_writeEndingAt 4 = .ok (.istore 4, 2) := by decide +kernel
theorem dX6_writeEndingAt_6 : decode cX6_writeEndingAt 6 = .ok (.iload_n 2, 1) := by decide +kernel
theorem dX6_writeEndingAt_7 : decode cX6_writeEndingAt 7 = .ok (.istore 5, 2) := by decide +kernel
theorem dX6_writeEndingAt_9 : decode cX6_writeEndingAt 9 = .ok (.aload_n 0, 1) := by decide +kernel
theorem dX6_writeEndingAt_10 : decode cX6_writeEndingAt 10 = .ok (.iload_n 1, 1) := by decide +kernel
theorem dX6_writeEndingAt_11 : decode cX6_writeEndingAt 11 = .ok (.iload 5, 2) := by decide +kernel
theorem dX6_writeEndingAt_13 : decode cX6_writeEndingAt 13 = .ok (.bipush 48, 2) := by decide +kernel
theorem dX6_writeEndingAt_15 : decode cX6_writeEndingAt 15 = .ok (.iload 4, 2) := by decide +kernel
theorem dX6_writeEndingAt_17 : decode cX6_writeEndingAt 17 = .ok (.bipush 10, 2) := by decide +kernel
theorem dX6_writeEndingAt_19 : decode cX6_writeEndingAt 19 = .ok (.irem, 1) := by decide +kernel
theorem dX6_writeEndingAt_20 : decode cX6_writeEndingAt 20 = .ok (.iadd, 1) := by decide +kernel
theorem dX6_writeEndingAt_21 : decode cX6_writeEndingAt 21 = .ok (.i2c, 1) := by decide +kernel
theorem dX6_writeEndingAt_22 : decode cX6_writeEndingAt 22 = .ok (.invokevirtual 69, 3) := by decide +kernel
theorem dX6_writeEndingAt_25 : decode cX6_writeEndingAt 25 = .ok (.iload 4, 2) := by decide +kernel
theorem dX6_writeEndingAt_27 : decode cX6_writeEndingAt 27 = .ok (.bipush 10, 2) := by decide +kernel
theorem dX6_writeEndingAt_29 : decode cX6_writeEndingAt 29 = .ok (.idiv, 1) := by decide +kernel
theorem dX6_writeEndingAt_30 : decode cX6_writeEndingAt 30 = .ok (.istore 4, 2) := by decide +kernel
theorem dX6_writeEndingAt_32 : decode cX6_writeEndingAt 32 = .ok (.iinc 5 (-1), 3) := by decide +kernel
theorem dX6_writeEndingAt_35 : decode cX6_writeEndingAt 35 = .ok (.iload 4, 2) := by decide +kernel
theorem dX6_writeEndingAt_37 : decode cX6_writeEndingAt 37 = .ok (.ifCond .le 8, 3) := by decide +kernel
theorem dX6_writeEndingAt_40 : decode cX6_writeEndingAt 40 = .ok (.iload 5, 2) := by decide +kernel
theorem dX6_writeEndingAt_42 : decode cX6_writeEndingAt 42 = .ok (.ifCond .gt (-33), 3) := by decide +kernel
theorem dX6_writeEndingAt_45 : decode cX6_writeEndingAt 45 = .ok (.iload_n 3, 1) := by decide +kernel
theorem dX6_writeEndingAt_46 : decode cX6_writeEndingAt 46 = .ok (.ifCond .ge 12, 3) := by decide +kernel
theorem dX6_writeEndingAt_49 : decode cX6_writeEndingAt 49 = .ok (.aload_n 0, 1) := by decide +kernel
theorem dX6_writeEndingAt_50 : decode cX6_writeEndingAt 50 = .ok (.iload_n 1, 1) := by decide +kernel
theorem dX6_writeEndingAt_51 : decode cX6_writeEndingAt 51 = .ok (.iload 5, 2) := by decide +kernel
theorem dX6_writeEndingAt_53 : decode cX6_writeEndingAt 53 = .ok (.bipush 45, 2) := by decide +kernel
theorem dX6_writeEndingAt_55 : decode cX6_writeEndingAt 55 = .ok (.invokevirtual 69, 3) := by decide +kernel
theorem dX6_writeEndingAt_58 : decode cX6_writeEndingAt 58 = .ok (.return_, 1) := by decide +kernel
theorem dX6_writeAtEnd_0 : decode cX6_writeAtEnd 0 = .ok (.aload_n 0, 1) := by decide +kernel
theorem dX6_writeAtEnd_1 : decode cX6_writeAtEnd 1 = .ok (.iload_n 1, 1) := by decide +kernel
theorem dX6_writeAtEnd_2 : decode cX6_writeAtEnd 2 = .ok (.bipush 15, 2) := by decide +kernel
theorem dX6_writeAtEnd_4 : decode cX6_writeAtEnd 4 = .ok (.iload_n 2, 1) := by decide +kernel
theorem dX6_writeAtEnd_5 : decode cX6_writeAtEnd 5 = .ok (.invokevirtual 79, 3) := by decide +kernel
theorem dX6_writeAtEnd_8 : decode cX6_writeAtEnd 8 = .ok (.return_, 1) := by decide +kernel
theorem dX6_writeNumbered_0 : decode cX6_writeNumbered 0 = .ok (.aload_n 0, 1) := by decide +kernel
theorem dX6_writeNumbered_1 : decode cX6_writeNumbered 1 = .ok (.iload_n 1, 1) := by decide +kernel
theorem dX6_writeNumbered_2 : decode cX6_writeNumbered 2 = .ok (.aload_n 2, 1) := by decide +kernel
theorem dX6_writeNumbered_3 : decode cX6_writeNumbered 3 = .ok (.invokevirtual 83, 3) := by decide +kernel
theorem dX6_writeNumbered_6 : decode cX6_writeNumbered 6 = .ok (.istore 4, 2) := by decide +kernel
theorem dX6_writeNumbered_8 : decode cX6_writeNumbered 8 = .ok (.aload_n 0, 1) := by decide +kernel
theorem dX6_writeNumbered_9 : decode cX6_writeNumbered 9 = .ok (.iload_n 1, 1) := by decide +kernel
theorem dX6_writeNumbered_10 : decode cX6_writeNumbered 10 = .ok (.iload_n 3, 1) := by decide +kernel
theorem dX6_writeNumbered_11 : decode cX6_writeNumbered 11 = .ok (.bipush 10, 2) := by decide +kernel
theorem dX6_writeNumbered_13 : decode cX6_writeNumbered 13 = .ok (.if_icmp .ge 8, 3) := by decide +kernel
theorem dX6_writeNumbered_16 : decode cX6_writeNumbered 16 = .ok (.iload 4, 2) := by decide +kernel
theorem dX6_writeNumbered_18 : decode cX6_writeNumbered 18 = .ok (.goto 7, 3) := by decide +kernel
theorem dX6_writeNumbered_21 : decode cX6_writeNumbered 21 = .ok (.iload 4, 2) := by decide +kernel
theorem dX6_writeNumbered_23 : decode cX6_writeNumbered 23 = .ok (.iconst 1, 1) := by decide +kernel
theorem dX6_writeNumbered_24 : decode cX6_writeNumbered 24 = .ok (.iadd, 1) := by decide +kernel
theorem dX6_writeNumbered_25 : decode cX6_writeNumbered 25 = .ok (.iload_n 3, 1) := by decide +kernel
theorem dX6_writeNumbered_26 : decode cX6_writeNumbered 26 = .ok (.invokevirtual 79, 3) := by decide +kernel
theorem dX6_writeNumbered_29 : decode cX6_writeNumbered 29 = .ok (.return_, 1) := by decide +kernel
theorem dX6_writeTitle_0 : decode cX6_writeTitle 0 = .ok (.aload_n 2, 1) := by decide +kernel
theorem dX6_writeTitle_1 : decode cX6_writeTitle 1 = .ok (.ifnull 13, 3) := by decide +kernel
theorem dX6_writeTitle_4 : decode cX6_writeTitle 4 = .ok (.aload_n 0, 1) := by decide +kernel
theorem dX6_writeTitle_5 : decode cX6_writeTitle 5 = .ok (.iconst 0, 1) := by decide +kernel
theorem dX6_writeTitle_6 : decode cX6_writeTitle 6 = .ok (.aload_n 1, 1) := by decide +kernel
theorem dX6_writeTitle_7 : decode cX6_writeTitle 7 = .ok (.aload_n 2, 1) := by decide +kernel
theorem dX6_writeTitle_8 : decode cX6_writeTitle 8 = .ok (.getfield 87, 3) := by decide +kernel
theorem dX6_writeTitle_11 : decode cX6_writeTitle 11 = .ok (.invokevirtual 92, 3) := by decide +kernel
theorem dX6_writeTitle_14 : decode cX6_writeTitle 14 = .ok (.return_, 1) := by decide +kernel
theorem dX6_writeName_0 : decode cX6_writeName 0 = .ok (.aload_n 2, 1) := by decide +kernel
theorem dX6_writeName_1 : decode cX6_writeName 1 = .ok (.getfield 96, 3) := by decide +kernel
theorem dX6_writeName_4 : decode cX6_writeName 4 = .ok (.ifCond .ne 17, 3) := by decide +kernel
theorem dX6_writeName_7 : decode cX6_writeName 7 = .ok (.aload_n 0, 1) := by decide +kernel
theorem dX6_writeName_8 : decode cX6_writeName 8 = .ok (.iload_n 1, 1) := by decide +kernel
theorem dX6_writeName_9 : decode cX6_writeName 9 = .ok (.ldc 99, 2) := by decide +kernel
theorem dX6_writeName_11 : decode cX6_writeName 11 = .ok (.aload_n 2, 1) := by decide +kernel
theorem dX6_writeName_12 : decode cX6_writeName 12 = .ok (.getfield 87, 3) := by decide +kernel
theorem dX6_writeName_15 : decode cX6_writeName 15 = .ok (.invokevirtual 92, 3) := by decide +kernel
theorem dX6_writeName_18 : decode cX6_writeName 18 = .ok (.goto 36, 3) := by decide +kernel
theorem dX6_writeName_21 : decode cX6_writeName 21 = .ok (.aload_n 2, 1) := by decide +kernel
theorem dX6_writeName_22 : decode cX6_writeName 22 = .ok (.getfield 96, 3) := by decide +kernel
theorem dX6_writeName_25 : decode cX6_writeName 25 = .ok (.iconst 1, 1) := by decide +kernel
theorem dX6_writeName_26 : decode cX6_writeName 26 = .ok (.if_icmp .ne 17, 3) := by decide +kernel
theorem dX6_writeName_29 : decode cX6_writeName 29 = .ok (.aload_n 0, 1) := by decide +kernel
theorem dX6_writeName_30 : decode cX6_writeName 30 = .ok (.iload_n 1, 1) := by decide +kernel
theorem dX6_writeName_31 : decode cX6_writeName 31 = .ok (.ldc 101, 2) := by decide +kernel
theorem dX6_writeName_33 : decode cX6_writeName 33 = .ok (.aload_n 2, 1) := by decide +kernel
theorem dX6_writeName_34 : decode cX6_writeName 34 = .ok (.getfield 87, 3) := by decide +kernel
theorem dX6_writeName_37 : decode cX6_writeName 37 = .ok (.invokevirtual 92, 3) := by decide +kernel
theorem dX6_writeName_40 : decode cX6_writeName 40 = .ok (.goto 14, 3) := by decide +kernel
theorem dX6_writeName_43 : decode cX6_writeName 43 = .ok (.aload_n 0, 1) := by decide +kernel
theorem dX6_writeName_44 : decode cX6_writeName 44 = .ok (.iload_n 1, 1) := by decide +kernel
theorem dX6_writeName_45 : decode cX6_writeName 45 = .ok (.ldc 103, 2) := by decide +kernel
theorem dX6_writeName_47 : decode cX6_writeName 47 = .ok (.aload_n 2, 1) := by decide +kernel
theorem dX6_writeName_48 : decode cX6_writeName 48 = .ok (.getfield 87, 3) := by decide +kernel
theorem dX6_writeName_51 : decode cX6_writeName 51 = .ok (.invokevirtual 92, 3) := by decide +kernel
theorem dX6_writeName_54 : decode cX6_writeName 54 = .ok (.return_, 1) := by decide +kernel
theorem dX6_writeChosen_0 : decode cX6_writeChosen 0 = .ok (.aload_n 2, 1) := by decide +kernel
theorem dX6_writeChosen_1 : decode cX6_writeChosen 1 = .ok (.ifnull 17, 3) := by decide +kernel
theorem dX6_writeChosen_4 : decode cX6_writeChosen 4 = .ok (.aload_n 0, 1) := by decide +kernel
theorem dX6_writeChosen_5 : decode cX6_writeChosen 5 = .ok (.iconst 1, 1) := by decide +kernel
theorem dX6_writeChosen_6 : decode cX6_writeChosen 6 = .ok (.aload_n 2, 1) := by decide +kernel
theorem dX6_writeChosen_7 : decode cX6_writeChosen 7 = .ok (.invokevirtual 51, 3) := by decide +kernel
theorem dX6_writeChosen_10 : decode cX6_writeChosen 10 = .ok (.aload_n 0, 1) := by decide +kernel
theorem dX6_writeChosen_11 : decode cX6_writeChosen 11 = .ok (.aload_n 2, 1) := by decide +kernel
theorem dX6_writeChosen_12 : decode cX6_writeChosen 12 = .ok (.invokevirtual 105, 3) := by decide +kernel
theorem dX6_writeChosen_15 : decode cX6_writeChosen 15 = .ok (.goto 18, 3) := by decide +kernel
theorem dX6_writeChosen_18 : decode cX6_writeChosen 18 = .ok (.aload_n 1, 1) := by decide +kernel
theorem dX6_writeChosen_19 : decode cX6_writeChosen 19 = .ok (.invokevirtual 109, 3) := by decide +kernel
theorem dX6_writeChosen_22 : decode cX6_writeChosen 22 = .ok (.ifCond .le 11, 3) := by decide +kernel
theorem dX6_writeChosen_25 : decode cX6_writeChosen 25 = .ok (.aload_n 0, 1) := by decide +kernel
theorem dX6_writeChosen_26 : decode cX6_writeChosen 26 = .ok (.iconst 1, 1) := by decide +kernel
theorem dX6_writeChosen_27 : decode cX6_writeChosen 27 = .ok (.ldc 112, 2) := by decide +kernel
theorem dX6_writeChosen_29 : decode cX6_writeChosen 29 = .ok (.invokevirtual 83, 3) := by decide +kernel
theorem dX6_writeChosen_32 : decode cX6_writeChosen 32 = .ok (.pop, 1) := by decide +kernel
theorem dX6_writeChosen_33 : decode cX6_writeChosen 33 = .ok (.return_, 1) := by decide +kernel
theorem dX6_writeState_0 : decode cX6_writeState 0 = .ok (.aload_n 1, 1) := by decide +kernel
theorem dX6_writeState_1 : decode cX6_writeState 1 = .ok (.invokevirtual 114, 3) := by decide +kernel
theorem dX6_writeState_4 : decode cX6_writeState 4 = .ok (.ifCond .eq 15, 3) := by decide +kernel
theorem dX6_writeState_7 : decode cX6_writeState 7 = .ok (.aload_n 0, 1) := by decide +kernel
theorem dX6_writeState_8 : decode cX6_writeState 8 = .ok (.iconst 1, 1) := by decide +kernel
theorem dX6_writeState_9 : decode cX6_writeState 9 = .ok (.bipush 15, 2) := by decide +kernel
theorem dX6_writeState_11 : decode cX6_writeState 11 = .ok (.bipush 76, 2) := by decide +kernel
theorem dX6_writeState_13 : decode cX6_writeState 13 = .ok (.invokevirtual 69, 3) := by decide +kernel
theorem dX6_writeState_16 : decode cX6_writeState 16 = .ok (.goto 31, 3) := by decide +kernel
theorem dX6_writeState_19 : decode cX6_writeState 19 = .ok (.aload_n 1, 1) := by decide +kernel
theorem dX6_writeState_20 : decode cX6_writeState 20 = .ok (.getfield 96, 3) := by decide +kernel
theorem dX6_writeState_23 : decode cX6_writeState 23 = .ok (.ifCond .ne 15, 3) := by decide +kernel
theorem dX6_writeState_26 : decode cX6_writeState 26 = .ok (.aload_n 0, 1) := by decide +kernel
theorem dX6_writeState_27 : decode cX6_writeState 27 = .ok (.iconst 1, 1) := by decide +kernel
theorem dX6_writeState_28 : decode cX6_writeState 28 = .ok (.bipush 15, 2) := by decide +kernel
theorem dX6_writeState_30 : decode cX6_writeState 30 = .ok (.bipush 62, 2) := by decide +kernel
theorem dX6_writeState_32 : decode cX6_writeState 32 = .ok (.invokevirtual 69, 3) := by decide +kernel
theorem dX6_writeState_35 : decode cX6_writeState 35 = .ok (.goto 12, 3) := by decide +kernel
theorem dX6_writeState_38 : decode cX6_writeState 38 = .ok (.aload_n 0, 1) := by decide +kernel
theorem dX6_writeState_39 : decode cX6_writeState 39 = .ok (.iconst 1, 1) := by decide +kernel
theorem dX6_writeState_40 : decode cX6_writeState 40 = .ok (.aload_n 1, 1) := by decide +kernel
theorem dX6_writeState_41 : decode cX6_writeState 41 = .ok (.getfield 118, 3) := by decide +kernel
theorem dX6_writeState_44 : decode cX6_writeState 44 = .ok (.invokevirtual 37, 3) := by decide +kernel
theorem dX6_writeState_47 : decode cX6_writeState 47 = .ok (.return_, 1) := by decide +kernel
theorem dX6_writeDigits_0 : decode cX6_writeDigits 0 = .ok (.iconst 0, 1) := by decide +kernel
theorem dX6_writeDigits_1 : decode cX6_writeDigits 1 = .ok (.istore_n 2, 1) := by decide +kernel
theorem dX6_writeDigits_2 : decode cX6_writeDigits 2 = .ok (.iload_n 2, 1) := by decide +kernel
theorem dX6_writeDigits_3 : decode cX6_writeDigits 3 = .ok (.iconst 4, 1) := by decide +kernel
theorem dX6_writeDigits_4 : decode cX6_writeDigits 4 = .ok (.if_icmp .ge 62, 3) := by decide +kernel
theorem dX6_writeDigits_7 : decode cX6_writeDigits 7 = .ok (.iload_n 2, 1) := by decide +kernel
theorem dX6_writeDigits_8 : decode cX6_writeDigits 8 = .ok (.aload_n 1, 1) := by decide +kernel
theorem dX6_writeDigits_9 : decode cX6_writeDigits 9 = .ok (.getfield 121, 3) := by decide +kernel
theorem dX6_writeDigits_12 : decode cX6_writeDigits 12 = .ok (.if_icmp .ge 14, 3) := by decide +kernel
theorem dX6_writeDigits_15 : decode cX6_writeDigits 15 = .ok (.aload_n 0, 1) := by decide +kernel
theorem dX6_writeDigits_16 : decode cX6_writeDigits 16 = .ok (.iconst 1, 1) := by decide +kernel
theorem dX6_writeDigits_17 : decode cX6_writeDigits 17 = .ok (.iload_n 2, 1) := by decide +kernel
theorem dX6_writeDigits_18 : decode cX6_writeDigits 18 = .ok (.bipush 42, 2) := by decide +kernel
theorem dX6_writeDigits_20 : decode cX6_writeDigits 20 = .ok (.invokevirtual 69, 3) := by decide +kernel
theorem dX6_writeDigits_23 : decode cX6_writeDigits 23 = .ok (.goto 37, 3) := by decide +kernel
theorem dX6_writeDigits_26 : decode cX6_writeDigits 26 = .ok (.iload_n 2, 1) := by decide +kernel
theorem dX6_writeDigits_27 : decode cX6_writeDigits 27 = .ok (.aload_n 1, 1) := by decide +kernel
theorem dX6_writeDigits_28 : decode cX6_writeDigits 28 = .ok (.getfield 121, 3) := by decide +kernel
theorem dX6_writeDigits_31 : decode cX6_writeDigits 31 = .ok (.if_icmp .ne 21, 3) := by decide +kernel
theorem dX6_writeDigits_34 : decode cX6_writeDigits 34 = .ok (.aload_n 0, 1) := by decide +kernel
theorem dX6_writeDigits_35 : decode cX6_writeDigits 35 = .ok (.iconst 1, 1) := by decide +kernel
theorem dX6_writeDigits_36 : decode cX6_writeDigits 36 = .ok (.iload_n 2, 1) := by decide +kernel
theorem dX6_writeDigits_37 : decode cX6_writeDigits 37 = .ok (.bipush 48, 2) := by decide +kernel
theorem dX6_writeDigits_39 : decode cX6_writeDigits 39 = .ok (.aload_n 1, 1) := by decide +kernel
theorem dX6_writeDigits_40 : decode cX6_writeDigits 40 = .ok (.iload_n 2, 1) := by decide +kernel
theorem dX6_writeDigits_41 : decode cX6_writeDigits 41 = .ok (.invokevirtual 124, 3) := by decide +kernel
theorem dX6_writeDigits_44 : decode cX6_writeDigits 44 = .ok (.iadd, 1) := by decide +kernel
theorem dX6_writeDigits_45 : decode cX6_writeDigits 45 = .ok (.i2c, 1) := by decide +kernel
theorem dX6_writeDigits_46 : decode cX6_writeDigits 46 = .ok (.invokevirtual 69, 3) := by decide +kernel
theorem dX6_writeDigits_49 : decode cX6_writeDigits 49 = .ok (.goto 11, 3) := by decide +kernel
theorem dX6_writeDigits_52 : decode cX6_writeDigits 52 = .ok (.aload_n 0, 1) := by decide +kernel
theorem dX6_writeDigits_53 : decode cX6_writeDigits 53 = .ok (.iconst 1, 1) := by decide +kernel
theorem dX6_writeDigits_54 : decode cX6_writeDigits 54 = .ok (.iload_n 2, 1) := by decide +kernel
theorem dX6_writeDigits_55 : decode cX6_writeDigits 55 = .ok (.bipush 45, 2) := by decide +kernel
theorem dX6_writeDigits_57 : decode cX6_writeDigits 57 = .ok (.invokevirtual 69, 3) := by decide +kernel
theorem dX6_writeDigits_60 : decode cX6_writeDigits 60 = .ok (.iinc 2 1, 3) := by decide +kernel
theorem dX6_writeDigits_63 : decode cX6_writeDigits 63 = .ok (.goto (-61), 3) := by decide +kernel
theorem dX6_writeDigits_66 : decode cX6_writeDigits 66 = .ok (.return_, 1) := by decide +kernel
theorem dX7_init_0 : decode cX7_init 0 = .ok (.aload_n 0, 1) := by decide +kernel
theorem dX7_init_1 : decode cX7_init 1 = .ok (.invokespecial 3, 3) := by decide +kernel
theorem dX7_init_4 : decode cX7_init 4 = .ok (.aload_n 0, 1) := by decide +kernel
theorem dX7_init_5 : decode cX7_init 5 = .ok (.new 9, 3) := by decide +kernel
theorem dX7_init_8 : decode cX7_init 8 = .ok (.dup, 1) := by decide +kernel
theorem dX7_init_9 : decode cX7_init 9 = .ok (.iconst 0, 1) := by decide +kernel
theorem dX7_init_10 : decode cX7_init 10 = .ok (.iconst 0, 1) := by decide +kernel
theorem dX7_init_11 : decode cX7_init 11 = .ok (.aconst_null, 1) := by decide +kernel
theorem dX7_init_12 : decode cX7_init 12 = .ok (.iconst 0, 1) := by decide +kernel
theorem dX7_init_13 : decode cX7_init 13 = .ok (.iconst 0, 1) := by decide +kernel
theorem dX7_init_14 : decode cX7_init 14 = .ok (.iconst 0, 1) := by decide +kernel
theorem dX7_init_15 : decode cX7_init 15 = .ok (.invokespecial 11, 3) := by decide +kernel
theorem dX7_init_18 : decode cX7_init 18 = .ok (.putfield 14, 3) := by decide +kernel
theorem dX7_init_21 : decode cX7_init 21 = .ok (.aload_n 0, 1) := by decide +kernel
theorem dX7_init_22 : decode cX7_init 22 = .ok (.bipush 24, 2) := by decide +kernel
theorem dX7_init_24 : decode cX7_init 24 = .ok (.anewarray 9, 3) := by decide +kernel
theorem dX7_init_27 : decode cX7_init 27 = .ok (.putfield 20, 3) := by decide +kernel
theorem dX7_init_30 : decode cX7_init 30 = .ok (.aload_n 0, 1) := by decide +kernel
theorem dX7_init_31 : decode cX7_init 31 = .ok (.aload_n 0, 1) := by decide +kernel
theorem dX7_init_32 : decode cX7_init 32 = .ok (.getfield 14, 3) := by decide +kernel
theorem dX7_init_35 : decode cX7_init 35 = .ok (.invokevirtual 24, 3) := by decide +kernel
theorem dX7_init_38 : decode cX7_init 38 = .ok (.return_, 1) := by decide +kernel
theorem dX7_keep_0 : decode cX7_keep 0 = .ok (.aload_n 0, 1) := by decide +kernel
theorem dX7_keep_1 : decode cX7_keep 1 = .ok (.getfield 28, 3) := by decide +kernel
theorem dX7_keep_4 : decode cX7_keep 4 = .ok (.ifCond .lt 35, 3) := by decide +kernel
theorem dX7_keep_7 : decode cX7_keep 7 = .ok (.aload_n 0, 1) := by decide +kernel
theorem dX7_keep_8 : decode cX7_keep 8 = .ok (.getfield 28, 3) := by decide +kernel
theorem dX7_keep_11 : decode cX7_keep 11 = .ok (.aload_n 0, 1) := by decide +kernel
theorem dX7_keep_12 : decode cX7_keep 12 = .ok (.getfield 20, 3) := by decide +kernel
theorem dX7_keep_15 : decode cX7_keep 15 = .ok (.arraylength, 1) := by decide +kernel
theorem dX7_keep_16 : decode cX7_keep 16 = .ok (.if_icmp .ge 23, 3) := by decide +kernel
theorem dX7_keep_19 : decode cX7_keep 19 = .ok (.aload_n 0, 1) := by decide +kernel
theorem dX7_keep_20 : decode cX7_keep 20 = .ok (.getfield 20, 3) := by decide +kernel
theorem dX7_keep_23 : decode cX7_keep 23 = .ok (.aload_n 0, 1) := by decide +kernel
theorem dX7_keep_24 : decode cX7_keep 24 = .ok (.getfield 28, 3) := by decide +kernel
theorem dX7_keep_27 : decode cX7_keep 27 = .ok (.aload_n 1, 1) := by decide +kernel
theorem dX7_keep_28 : decode cX7_keep 28 = .ok (.aastore, 1) := by decide +kernel
theorem dX7_keep_29 : decode cX7_keep 29 = .ok (.aload_n 0, 1) := by decide +kernel
theorem dX7_keep_30 : decode cX7_keep 30 = .ok (.dup, 1) := by decide +kernel
theorem dX7_keep_31 : decode cX7_keep 31 = .ok (.getfield 28, 3) := by decide +kernel
theorem dX7_keep_34 : decode cX7_keep 34 = .ok (.iconst 1, 1) := by decide +kernel
theorem dX7_keep_35 : decode cX7_keep 35 = .ok (.iadd, 1) := by decide +kernel
theorem dX7_keep_36 : decode cX7_keep 36 = .ok (.putfield 28, 3) := by decide +kernel
theorem dX7_keep_39 : decode cX7_keep 39 = .ok (.return_, 1) := by decide +kernel
theorem dX7_find_0 : decode cX7_find 0 = .ok (.iload_n 1, 1) := by decide +kernel
theorem dX7_find_1 : decode cX7_find 1 = .ok (.ifCond .lt 29, 3) := by decide +kernel
theorem dX7_find_4 : decode cX7_find 4 = .ok (.iload_n 1, 1) := by decide +kernel
theorem dX7_find_5 : decode cX7_find 5 = .ok (.aload_n 0, 1) := by decide +kernel
theorem dX7_find_6 : decode cX7_find 6 = .ok (.getfield 28, 3) := by decide +kernel
theorem dX7_find_9 : decode cX7_find 9 = .ok (.if_icmp .ge 21, 3) := by decide +kernel
theorem dX7_find_12 : decode cX7_find 12 = .ok (.iload_n 1, 1) := by decide +kernel
theorem dX7_find_13 : decode cX7_find 13 = .ok (.aload_n 0, 1) := by decide +kernel
theorem dX7_find_14 : decode cX7_find 14 = .ok (.getfield 20, 3) := by decide +kernel
theorem dX7_find_17 : decode cX7_find 17 = .ok (.arraylength, 1) := by decide +kernel
theorem dX7_find_18 : decode cX7_find 18 = .ok (.if_icmp .ge 12, 3) := by decide +kernel
theorem dX7_find_21 : decode cX7_find 21 = .ok (.aload_n 0, 1) := by decide +kernel
theorem dX7_find_22 : decode cX7_find 22 = .ok (.getfield 20, 3) := by decide +kernel
theorem dX7_find_25 : decode cX7_find 25 = .ok (.iload_n 1, 1) := by decide +kernel
theorem dX7_find_26 : decode cX7_find 26 = .ok (.aaload, 1) := by decide +kernel
theorem dX7_find_27 : decode cX7_find 27 = .ok (.goto 4, 3) := by decide +kernel
theorem dX7_find_30 : decode cX7_find 30 = .ok (.aconst_null, 1) := by decide +kernel
theorem dX7_find_31 : decode cX7_find 31 = .ok (.areturn, 1) := by decide +kernel
theorem dX7_anyOpen_0 : decode cX7_anyOpen 0 = .ok (.iconst 0, 1) := by decide +kernel
theorem dX7_anyOpen_1 : decode cX7_anyOpen 1 = .ok (.istore_n 1, 1) := by decide +kernel
theorem dX7_anyOpen_2 : decode cX7_anyOpen 2 = .ok (.iload_n 1, 1) := by decide +kernel
theorem dX7_anyOpen_3 : decode cX7_anyOpen 3 = .ok (.aload_n 0, 1) := by decide +kernel
theorem dX7_anyOpen_4 : decode cX7_anyOpen 4 = .ok (.getfield 28, 3) := by decide +kernel
theorem dX7_anyOpen_7 : decode cX7_anyOpen 7 = .ok (.if_icmp .ge 35, 3) := by decide +kernel
theorem dX7_anyOpen_10 : decode cX7_anyOpen 10 = .ok (.aload_n 0, 1) := by decide +kernel
theorem dX7_anyOpen_11 : decode cX7_anyOpen 11 = .ok (.iload_n 1, 1) := by decide +kernel
theorem dX7_anyOpen_12 : decode cX7_anyOpen 12 = .ok (.invokevirtual 32, 3) := by decide +kernel
theorem dX7_anyOpen_15 : decode cX7_anyOpen 15 = .ok (.astore_n 2, 1) := by decide +kernel
theorem dX7_anyOpen_16 : decode cX7_anyOpen 16 = .ok (.aload_n 2, 1) := by decide +kernel
theorem dX7_anyOpen_17 : decode cX7_anyOpen 17 = .ok (.ifnull 19, 3) := by decide +kernel
theorem dX7_anyOpen_20 : decode cX7_anyOpen 20 = .ok (.aload_n 2, 1) := by decide +kernel
theorem dX7_anyOpen_21 : decode cX7_anyOpen 21 = .ok (.invokevirtual 36, 3) := by decide +kernel
theorem dX7_anyOpen_24 : decode cX7_anyOpen 24 = .ok (.ifCond .eq 12, 3) := by decide +kernel
theorem dX7_anyOpen_27 : decode cX7_anyOpen 27 = .ok (.aload_n 2, 1) := by decide +kernel
theorem dX7_anyOpen_28 : decode cX7_anyOpen 28 = .ok (.getfield 40, 3) := by decide +kernel
theorem dX7_anyOpen_31 : decode cX7_anyOpen 31 = .ok (.ifCond .eq 5, 3) := by decide +kernel
theorem dX7_anyOpen_34 : decode cX7_anyOpen 34 = .ok (.iconst 1, 1) := by decide +kernel
theorem dX7_anyOpen_35 : decode cX7_anyOpen 35 = .ok (.ireturn, 1) := by decide +kernel
theorem dX7_anyOpen_36 : decode cX7_anyOpen 36 = .ok (.iinc 1 1, 3) := by decide +kernel
theorem dX7_anyOpen_39 : decode cX7_anyOpen 39 = .ok (.goto (-37), 3) := by decide +kernel
theorem dX7_anyOpen_42 : decode cX7_anyOpen 42 = .ok (.iconst 0, 1) := by decide +kernel
theorem dX7_anyOpen_43 : decode cX7_anyOpen 43 = .ok (.ireturn, 1) := by decide +kernel
theorem dX7_closeAll_0 : decode cX7_closeAll 0 = .ok (.iconst 0, 1) := by decide +kernel
theorem dX7_closeAll_1 : decode cX7_closeAll 1 = .ok (.istore_n 1, 1) := by decide +kernel
theorem dX7_closeAll_2 : decode cX7_closeAll 2 = .ok (.iload_n 1, 1) := by decide +kernel
theorem dX7_closeAll_3 : decode cX7_closeAll 3 = .ok (.aload_n 0, 1) := by decide +kernel
theorem dX7_closeAll_4 : decode cX7_closeAll 4 = .ok (.getfield 28, 3) := by decide +kernel
theorem dX7_closeAll_7 : decode cX7_closeAll 7 = .ok (.if_icmp .ge 24, 3) := by decide +kernel
theorem dX7_closeAll_10 : decode cX7_closeAll 10 = .ok (.aload_n 0, 1) := by decide +kernel
theorem dX7_closeAll_11 : decode cX7_closeAll 11 = .ok (.iload_n 1, 1) := by decide +kernel
theorem dX7_closeAll_12 : decode cX7_closeAll 12 = .ok (.invokevirtual 32, 3) := by decide +kernel
theorem dX7_closeAll_15 : decode cX7_closeAll 15 = .ok (.astore_n 2, 1) := by decide +kernel
theorem dX7_closeAll_16 : decode cX7_closeAll 16 = .ok (.aload_n 2, 1) := by decide +kernel
theorem dX7_closeAll_17 : decode cX7_closeAll 17 = .ok (.ifnull 8, 3) := by decide +kernel
theorem dX7_closeAll_20 : decode cX7_closeAll 20 = .ok (.aload_n 2, 1) := by decide +kernel
theorem dX7_closeAll_21 : decode cX7_closeAll 21 = .ok (.iconst 0, 1) := by decide +kernel
theorem dX7_closeAll_22 : decode cX7_closeAll 22 = .ok (.putfield 40, 3) := by decide +kernel
theorem dX7_closeAll_25 : decode cX7_closeAll 25 = .ok (.iinc 1 1, 3) := by decide +kernel
theorem dX7_closeAll_28 : decode cX7_closeAll 28 = .ok (.goto (-26), 3) := by decide +kernel
theorem dX7_closeAll_31 : decode cX7_closeAll 31 = .ok (.return_, 1) := by decide +kernel
theorem dX8_init_0 : decode cX8_init 0 = .ok (.aload_n 0, 1) := by decide +kernel
theorem dX8_init_1 : decode cX8_init 1 = .ok (.invokespecial 1, 3) := by decide +kernel
theorem dX8_init_4 : decode cX8_init 4 = .ok (.aload_n 0, 1) := by decide +kernel
theorem dX8_init_5 : decode cX8_init 5 = .ok (.new 7, 3) := by decide +kernel
theorem dX8_init_8 : decode cX8_init 8 = .ok (.dup, 1) := by decide +kernel
theorem dX8_init_9 : decode cX8_init 9 = .ok (.invokespecial 9, 3) := by decide +kernel
theorem dX8_init_12 : decode cX8_init 12 = .ok (.putfield 10, 3) := by decide +kernel
theorem dX8_init_15 : decode cX8_init 15 = .ok (.aload_n 0, 1) := by decide +kernel
theorem dX8_init_16 : decode cX8_init 16 = .ok (.new 16, 3) := by decide +kernel
theorem dX8_init_19 : decode cX8_init 19 = .ok (.dup, 1) := by decide +kernel
theorem dX8_init_20 : decode cX8_init 20 = .ok (.invokespecial 18, 3) := by decide +kernel
theorem dX8_init_23 : decode cX8_init 23 = .ok (.putfield 19, 3) := by decide +kernel
theorem dX8_init_26 : decode cX8_init 26 = .ok (.aload_n 0, 1) := by decide +kernel
theorem dX8_init_27 : decode cX8_init 27 = .ok (.new 23, 3) := by decide +kernel
theorem dX8_init_30 : decode cX8_init 30 = .ok (.dup, 1) := by decide +kernel
theorem dX8_init_31 : decode cX8_init 31 = .ok (.invokespecial 25, 3) := by decide +kernel
theorem dX8_init_34 : decode cX8_init 34 = .ok (.putfield 26, 3) := by decide +kernel
theorem dX8_init_37 : decode cX8_init 37 = .ok (.aload_n 0, 1) := by decide +kernel
theorem dX8_init_38 : decode cX8_init 38 = .ok (.new 23, 3) := by decide +kernel
theorem dX8_init_41 : decode cX8_init 41 = .ok (.dup, 1) := by decide +kernel
theorem dX8_init_42 : decode cX8_init 42 = .ok (.invokespecial 25, 3) := by decide +kernel
theorem dX8_init_45 : decode cX8_init 45 = .ok (.putfield 30, 3) := by decide +kernel
theorem dX8_init_48 : decode cX8_init 48 = .ok (.aload_n 0, 1) := by decide +kernel
theorem dX8_init_49 : decode cX8_init 49 = .ok (.new 33, 3) := by decide +kernel
theorem dX8_init_52 : decode cX8_init 52 = .ok (.dup, 1) := by decide +kernel
theorem dX8_init_53 : decode cX8_init 53 = .ok (.aload_n 0, 1) := by decide +kernel
theorem dX8_init_54 : decode cX8_init 54 = .ok (.getfield 10, 3) := by decide +kernel
theorem dX8_init_57 : decode cX8_init 57 = .ok (.aload_n 0, 1) := by decide +kernel
theorem dX8_init_58 : decode cX8_init 58 = .ok (.getfield 19, 3) := by decide +kernel
theorem dX8_init_61 : decode cX8_init 61 = .ok (.invokespecial 35, 3) := by decide +kernel
theorem dX8_init_64 : decode cX8_init 64 = .ok (.putfield 38, 3) := by decide +kernel
theorem dX8_init_67 : decode cX8_init 67 = .ok (.aload_n 0, 1) := by decide +kernel
theorem dX8_init_68 : decode cX8_init 68 = .ok (.new 42, 3) := by decide +kernel
theorem dX8_init_71 : decode cX8_init 71 = .ok (.dup, 1) := by decide +kernel
theorem dX8_init_72 : decode cX8_init 72 = .ok (.invokespecial 44, 3) := by decide +kernel
theorem dX8_init_75 : decode cX8_init 75 = .ok (.putfield 45, 3) := by decide +kernel
theorem dX8_init_78 : decode cX8_init 78 = .ok (.aload_n 0, 1) := by decide +kernel
theorem dX8_init_79 : decode cX8_init 79 = .ok (.new 49, 3) := by decide +kernel
theorem dX8_init_82 : decode cX8_init 82 = .ok (.dup, 1) := by decide +kernel
theorem dX8_init_83 : decode cX8_init 83 = .ok (.invokespecial 51, 3) := by decide +kernel
theorem dX8_init_86 : decode cX8_init 86 = .ok (.putfield 52, 3) := by decide +kernel
theorem dX8_init_89 : decode cX8_init 89 = .ok (.return_, 1) := by decide +kernel
theorem dX8_addMenu_0 : decode cX8_addMenu 0 = .ok (.aload_n 0, 1) := by decide +kernel
theorem dX8_addMenu_1 : decode cX8_addMenu 1 = .ok (.iload_n 1, 1) := by decide +kernel
theorem dX8_addMenu_2 : decode cX8_addMenu 2 = .ok (.invokevirtual 56, 3) := by decide +kernel
theorem dX8_addMenu_5 : decode cX8_addMenu 5 = .ok (.astore_n 2, 1) := by decide +kernel
theorem dX8_addMenu_6 : decode cX8_addMenu 6 = .ok (.aload_n 2, 1) := by decide +kernel
theorem dX8_addMenu_7 : decode cX8_addMenu 7 = .ok (.getfield 60, 3) := by decide +kernel
theorem dX8_addMenu_10 : decode cX8_addMenu 10 = .ok (.iconst 3, 1) := by decide +kernel
theorem dX8_addMenu_11 : decode cX8_addMenu 11 = .ok (.if_icmp .lt 13, 3) := by decide +kernel
theorem dX8_addMenu_14 : decode cX8_addMenu 14 = .ok (.new 66, 3) := by decide +kernel
theorem dX8_addMenu_17 : decode cX8_addMenu 17 = .ok (.dup, 1) := by decide +kernel
theorem dX8_addMenu_18 : decode cX8_addMenu 18 = .ok (.ldc 68, 2) := by decide +kernel
theorem dX8_addMenu_20 : decode cX8_addMenu 20 = .ok (.invokespecial 70, 3) := by decide +kernel
theorem dX8_addMenu_23 : decode cX8_addMenu 23 = .ok (.athrow, 1) := by decide +kernel
theorem dX8_addMenu_24 : decode cX8_addMenu 24 = .ok (.aload_n 0, 1) := by decide +kernel
theorem dX8_addMenu_25 : decode cX8_addMenu 25 = .ok (.aload_n 2, 1) := by decide +kernel
theorem dX8_addMenu_26 : decode cX8_addMenu 26 = .ok (.iconst 0, 1) := by decide +kernel
theorem dX8_addMenu_27 : decode cX8_addMenu 27 = .ok (.iconst 0, 1) := by decide +kernel
theorem dX8_addMenu_28 : decode cX8_addMenu 28 = .ok (.iconst 0, 1) := by decide +kernel
theorem dX8_addMenu_29 : decode cX8_addMenu 29 = .ok (.iconst 0, 1) := by decide +kernel
theorem dX8_addMenu_30 : decode cX8_addMenu 30 = .ok (.invokevirtual 73, 3) := by decide +kernel
theorem dX8_addMenu_33 : decode cX8_addMenu 33 = .ok (.ireturn, 1) := by decide +kernel
theorem dX8_addNumber_0 : decode cX8_addNumber 0 = .ok (.aload_n 0, 1) := by decide +kernel
theorem dX8_addNumber_1 : decode cX8_addNumber 1 = .ok (.iload_n 1, 1) := by decide +kernel
theorem dX8_addNumber_2 : decode cX8_addNumber 2 = .ok (.invokevirtual 56, 3) := by decide +kernel
theorem dX8_addNumber_5 : decode cX8_addNumber 5 = .ok (.astore 5, 2) := by decide +kernel
theorem dX8_addNumber_7 : decode cX8_addNumber 7 = .ok (.iload_n 2, 1) := by decide +kernel
theorem dX8_addNumber_8 : decode cX8_addNumber 8 = .ok (.sipush (-999), 3) := by decide +kernel
theorem dX8_addNumber_11 : decode cX8_addNumber 11 = .ok (.if_icmp .lt 15, 3) := by decide +kernel
theorem dX8_addNumber_14 : decode cX8_addNumber 14 = .ok (.iload_n 3, 1) := by decide +kernel
theorem dX8_addNumber_15 : decode cX8_addNumber 15 = .ok (.sipush 999, 3) := by decide +kernel
theorem dX8_addNumber_18 : decode cX8_addNumber 18 = .ok (.if_icmp .gt 8, 3) := by decide +kernel
theorem dX8_addNumber_21 : decode cX8_addNumber 21 = .ok (.iload_n 3, 1) := by decide +kernel
theorem dX8_addNumber_22 : decode cX8_addNumber 22 = .ok (.iload_n 2, 1) := by decide +kernel
theorem dX8_addNumber_23 : decode cX8_addNumber 23 = .ok (.if_icmp .gt 13, 3) := by decide +kernel
theorem dX8_addNumber_26 : decode cX8_addNumber 26 = .ok (.new 77, 3) := by decide +kernel
theorem dX8_addNumber_29 : decode cX8_addNumber 29 = .ok (.dup, 1) := by decide +kernel
theorem dX8_addNumber_30 : decode cX8_addNumber 30 = .ok (.ldc 79, 2) := by decide +kernel
theorem dX8_addNumber_32 : decode cX8_addNumber 32 = .ok (.invokespecial 81, 3) := by decide +kernel
theorem dX8_addNumber_35 : decode cX8_addNumber 35 = .ok (.athrow, 1) := by decide +kernel
theorem dX8_addNumber_36 : decode cX8_addNumber 36 = .ok (.iload 4, 2) := by decide +kernel
theorem dX8_addNumber_38 : decode cX8_addNumber 38 = .ok (.iconst 1, 1) := by decide +kernel
theorem dX8_addNumber_39 : decode cX8_addNumber 39 = .ok (.if_icmp .lt 10, 3) := by decide +kernel
theorem dX8_addNumber_42 : decode cX8_addNumber 42 = .ok (.iload 4, 2) := by decide +kernel
theorem dX8_addNumber_44 : decode cX8_addNumber 44 = .ok (.bipush 100, 2) := by decide +kernel
theorem dX8_addNumber_46 : decode cX8_addNumber 46 = .ok (.if_icmp .le 13, 3) := by decide +kernel
theorem dX8_addNumber_49 : decode cX8_addNumber 49 = .ok (.new 77, 3) := by decide +kernel
theorem dX8_addNumber_52 : decode cX8_addNumber 52 = .ok (.dup, 1) := by decide +kernel
theorem dX8_addNumber_53 : decode cX8_addNumber 53 = .ok (.ldc 82, 2) := by decide +kernel
theorem dX8_addNumber_55 : decode cX8_addNumber 55 = .ok (.invokespecial 81, 3) := by decide +kernel
theorem dX8_addNumber_58 : decode cX8_addNumber 58 = .ok (.athrow, 1) := by decide +kernel
theorem dX8_addNumber_59 : decode cX8_addNumber 59 = .ok (.aload_n 0, 1) := by decide +kernel
theorem dX8_addNumber_60 : decode cX8_addNumber 60 = .ok (.aload 5, 2) := by decide +kernel
theorem dX8_addNumber_62 : decode cX8_addNumber 62 = .ok (.iconst 1, 1) := by decide +kernel
theorem dX8_addNumber_63 : decode cX8_addNumber 63 = .ok (.iload_n 2, 1) := by decide +kernel
theorem dX8_addNumber_64 : decode cX8_addNumber 64 = .ok (.iload_n 3, 1) := by decide +kernel
theorem dX8_addNumber_65 : decode cX8_addNumber 65 = .ok (.iload 4, 2) := by decide +kernel
theorem dX8_addNumber_67 : decode cX8_addNumber 67 = .ok (.invokevirtual 73, 3) := by decide +kernel
theorem dX8_addNumber_70 : decode cX8_addNumber 70 = .ok (.ireturn, 1) := by decide +kernel
theorem dX8_addChoice_0 : decode cX8_addChoice 0 = .ok (.aload_n 0, 1) := by decide +kernel
theorem dX8_addChoice_1 : decode cX8_addChoice 1 = .ok (.iload_n 1, 1) := by decide +kernel
theorem dX8_addChoice_2 : decode cX8_addChoice 2 = .ok (.invokevirtual 56, 3) := by decide +kernel
theorem dX8_addChoice_5 : decode cX8_addChoice 5 = .ok (.astore_n 3, 1) := by decide +kernel
theorem dX8_addChoice_6 : decode cX8_addChoice 6 = .ok (.iload_n 2, 1) := by decide +kernel
theorem dX8_addChoice_7 : decode cX8_addChoice 7 = .ok (.iconst 2, 1) := by decide +kernel
theorem dX8_addChoice_8 : decode cX8_addChoice 8 = .ok (.if_icmp .lt 9, 3) := by decide +kernel
theorem dX8_addChoice_11 : decode cX8_addChoice 11 = .ok (.iload_n 2, 1) := by decide +kernel
theorem dX8_addChoice_12 : decode cX8_addChoice 12 = .ok (.bipush 9, 2) := by decide +kernel
theorem dX8_addChoice_14 : decode cX8_addChoice 14 = .ok (.if_icmp .le 13, 3) := by decide +kernel
theorem dX8_addChoice_17 : decode cX8_addChoice 17 = .ok (.new 77, 3) := by decide +kernel
theorem dX8_addChoice_20 : decode cX8_addChoice 20 = .ok (.dup, 1) := by decide +kernel
theorem dX8_addChoice_21 : decode cX8_addChoice 21 = .ok (.ldc 84, 2) := by decide +kernel
theorem dX8_addChoice_23 : decode cX8_addChoice 23 = .ok (.invokespecial 81, 3) := by decide +kernel
theorem dX8_addChoice_26 : decode cX8_addChoice 26 = .ok (.athrow, 1) := by decide +kernel
theorem dX8_addChoice_27 : decode cX8_addChoice 27 = .ok (.aload_n 0, 1) := by decide +kernel
theorem dX8_addChoice_28 : decode cX8_addChoice 28 = .ok (.aload_n 3, 1) := by decide +kernel
theorem dX8_addChoice_29 : decode cX8_addChoice 29 = .ok (.iconst 2, 1) := by decide +kernel
theorem dX8_addChoice_30 : decode cX8_addChoice 30 = .ok (.iconst 0, 1) := by decide +kernel
theorem dX8_addChoice_31 : decode cX8_addChoice 31 = .ok (.iload_n 2, 1) := by decide +kernel
theorem dX8_addChoice_32 : decode cX8_addChoice 32 = .ok (.iconst 1, 1) := by decide +kernel
theorem dX8_addChoice_33 : decode cX8_addChoice 33 = .ok (.isub, 1) := by decide +kernel
theorem dX8_addChoice_34 : decode cX8_addChoice 34 = .ok (.iconst 1, 1) := by decide +kernel
theorem dX8_addChoice_35 : decode cX8_addChoice 35 = .ok (.invokevirtual 73, 3) := by decide +kernel
theorem dX8_addChoice_38 : decode cX8_addChoice 38 = .ok (.ireturn, 1) := by decide +kernel
theorem dX8_lock_0 : decode cX8_lock 0 = .ok (.aload_n 0, 1) := by decide +kernel
theorem dX8_lock_1 : decode cX8_lock 1 = .ok (.iload_n 1, 1) := by decide +kernel
theorem dX8_lock_2 : decode cX8_lock 2 = .ok (.invokevirtual 86, 3) := by decide +kernel
theorem dX8_lock_5 : decode cX8_lock 5 = .ok (.astore_n 3, 1) := by decide +kernel
theorem dX8_lock_6 : decode cX8_lock 6 = .ok (.aload_n 3, 1) := by decide +kernel
theorem dX8_lock_7 : decode cX8_lock 7 = .ok (.getfield 89, 3) := by decide +kernel
theorem dX8_lock_10 : decode cX8_lock 10 = .ok (.ifnonnull 13, 3) := by decide +kernel
theorem dX8_lock_13 : decode cX8_lock 13 = .ok (.new 77, 3) := by decide +kernel
theorem dX8_lock_16 : decode cX8_lock 16 = .ok (.dup, 1) := by decide +kernel
theorem dX8_lock_17 : decode cX8_lock 17 = .ok (.ldc 93, 2) := by decide +kernel
theorem dX8_lock_19 : decode cX8_lock 19 = .ok (.invokespecial 81, 3) := by decide +kernel
theorem dX8_lock_22 : decode cX8_lock 22 = .ok (.athrow, 1) := by decide +kernel
theorem dX8_lock_23 : decode cX8_lock 23 = .ok (.iload_n 2, 1) := by decide +kernel
theorem dX8_lock_24 : decode cX8_lock 24 = .ok (.iconst (-1), 1) := by decide +kernel
theorem dX8_lock_25 : decode cX8_lock 25 = .ok (.if_icmp .lt 10, 3) := by decide +kernel
theorem dX8_lock_28 : decode cX8_lock 28 = .ok (.iload_n 2, 1) := by decide +kernel
theorem dX8_lock_29 : decode cX8_lock 29 = .ok (.sipush 9999, 3) := by decide +kernel
theorem dX8_lock_32 : decode cX8_lock 32 = .ok (.if_icmp .le 13, 3) := by decide +kernel
theorem dX8_lock_35 : decode cX8_lock 35 = .ok (.new 77, 3) := by decide +kernel
theorem dX8_lock_38 : decode cX8_lock 38 = .ok (.dup, 1) := by decide +kernel
theorem dX8_lock_39 : decode cX8_lock 39 = .ok (.ldc 95, 2) := by decide +kernel
theorem dX8_lock_41 : decode cX8_lock 41 = .ok (.invokespecial 81, 3) := by decide +kernel
theorem dX8_lock_44 : decode cX8_lock 44 = .ok (.athrow, 1) := by decide +kernel
theorem dX8_lock_45 : decode cX8_lock 45 = .ok (.aload_n 0, 1) := by decide +kernel
theorem dX8_lock_46 : decode cX8_lock 46 = .ok (.invokevirtual 97, 3) := by decide +kernel
theorem dX8_lock_49 : decode cX8_lock 49 = .ok (.aload_n 3, 1) := by decide +kernel
theorem dX8_lock_50 : decode cX8_lock 50 = .ok (.getfield 100, 3) := by decide +kernel
theorem dX8_lock_53 : decode cX8_lock 53 = .ok (.istore 4, 2) := by decide +kernel
theorem dX8_lock_55 : decode cX8_lock 55 = .ok (.aload_n 3, 1) := by decide +kernel
theorem dX8_lock_56 : decode cX8_lock 56 = .ok (.iload_n 2, 1) := by decide +kernel
theorem dX8_lock_57 : decode cX8_lock 57 = .ok (.putfield 100, 3) := by decide +kernel
theorem dX8_lock_60 : decode cX8_lock 60 = .ok (.aload_n 3, 1) := by decide +kernel
theorem dX8_lock_61 : decode cX8_lock 61 = .ok (.iconst 0, 1) := by decide +kernel
theorem dX8_lock_62 : decode cX8_lock 62 = .ok (.putfield 103, 3) := by decide +kernel
theorem dX8_lock_65 : decode cX8_lock 65 = .ok (.iload 4, 2) := by decide +kernel
theorem dX8_lock_67 : decode cX8_lock 67 = .ok (.ireturn, 1) := by decide +kernel
theorem dX8_items_0 : decode cX8_items 0 = .ok (.aload_n 0, 1) := by decide +kernel
theorem dX8_items_1 : decode cX8_items 1 = .ok (.getfield 10, 3) := by decide +kernel
theorem dX8_items_4 : decode cX8_items 4 = .ok (.getfield 107, 3) := by decide +kernel
theorem dX8_items_7 : decode cX8_items 7 = .ok (.ireturn, 1) := by decide +kernel
theorem dX8_kind_0 : decode cX8_kind 0 = .ok (.aload_n 0, 1) := by decide +kernel
theorem dX8_kind_1 : decode cX8_kind 1 = .ok (.iload_n 1, 1) := by decide +kernel
theorem dX8_kind_2 : decode cX8_kind 2 = .ok (.invokevirtual 86, 3) := by decide +kernel
theorem dX8_kind_5 : decode cX8_kind 5 = .ok (.getfield 110, 3) := by decide +kernel
theorem dX8_kind_8 : decode cX8_kind 8 = .ok (.ireturn, 1) := by decide +kernel
theorem dX8_menuOf_0 : decode cX8_menuOf 0 = .ok (.aload_n 0, 1) := by decide +kernel
theorem dX8_menuOf_1 : decode cX8_menuOf 1 = .ok (.iload_n 1, 1) := by decide +kernel
theorem dX8_menuOf_2 : decode cX8_menuOf 2 = .ok (.invokevirtual 86, 3) := by decide +kernel
theorem dX8_menuOf_5 : decode cX8_menuOf 5 = .ok (.getfield 89, 3) := by decide +kernel
theorem dX8_menuOf_8 : decode cX8_menuOf 8 = .ok (.invokestatic 113, 3) := by decide +kernel
theorem dX8_menuOf_11 : decode cX8_menuOf 11 = .ok (.ireturn, 1) := by decide +kernel
theorem dX8_value_0 : decode cX8_value 0 = .ok (.aload_n 0, 1) := by decide +kernel
theorem dX8_value_1 : decode cX8_value 1 = .ok (.iload_n 1, 1) := by decide +kernel
theorem dX8_value_2 : decode cX8_value 2 = .ok (.invokevirtual 86, 3) := by decide +kernel
theorem dX8_value_5 : decode cX8_value 5 = .ok (.astore_n 2, 1) := by decide +kernel
theorem dX8_value_6 : decode cX8_value 6 = .ok (.aload_n 2, 1) := by decide +kernel
theorem dX8_value_7 : decode cX8_value 7 = .ok (.getfield 110, 3) := by decide +kernel
theorem dX8_value_10 : decode cX8_value 10 = .ok (.ifCond .ne 13, 3) := by decide +kernel
theorem dX8_value_13 : decode cX8_value 13 = .ok (.new 77, 3) := by decide +kernel
theorem dX8_value_16 : decode cX8_value 16 = .ok (.dup, 1) := by decide +kernel
theorem dX8_value_17 : decode cX8_value 17 = .ok (.ldc 117, 2) := by decide +kernel
theorem dX8_value_19 : decode cX8_value 19 = .ok (.invokespecial 81, 3) := by decide +kernel
theorem dX8_value_22 : decode cX8_value 22 = .ok (.athrow, 1) := by decide +kernel
theorem dX8_value_23 : decode cX8_value 23 = .ok (.aload_n 2, 1) := by decide +kernel
theorem dX8_value_24 : decode cX8_value 24 = .ok (.getfield 119, 3) := by decide +kernel
theorem dX8_value_27 : decode cX8_value 27 = .ok (.ireturn, 1) := by decide +kernel
theorem dX8_isClosed_0 : decode cX8_isClosed 0 = .ok (.aload_n 0, 1) := by decide +kernel
theorem dX8_isClosed_1 : decode cX8_isClosed 1 = .ok (.iload_n 1, 1) := by decide +kernel
theorem dX8_isClosed_2 : decode cX8_isClosed 2 = .ok (.invokevirtual 86, 3) := by decide +kernel
theorem dX8_isClosed_5 : decode cX8_isClosed 5 = .ok (.invokevirtual 122, 3) := by decide +kernel
theorem dX8_isClosed_8 : decode cX8_isClosed 8 = .ok (.ireturn, 1) := by decide +kernel
theorem dX8_turn_0 : decode cX8_turn 0 = .ok (.iload_n 1, 1) := by decide +kernel
theorem dX8_turn_1 : decode cX8_turn 1 = .ok (.invokestatic 126, 3) := by decide +kernel
theorem dX8_turn_4 : decode cX8_turn 4 = .ok (.aload_n 0, 1) := by decide +kernel
theorem dX8_turn_5 : decode cX8_turn 5 = .ok (.getfield 38, 3) := by decide +kernel
theorem dX8_turn_8 : decode cX8_turn 8 = .ok (.iload_n 1, 1) := by decide +kernel
theorem dX8_turn_9 : decode cX8_turn 9 = .ok (.invokevirtual 130, 3) := by decide +kernel
theorem dX8_turn_12 : decode cX8_turn 12 = .ok (.ireturn, 1) := by decide +kernel
theorem dX8_press_0 : decode cX8_press 0 = .ok (.aload_n 0, 1) := by decide +kernel
theorem dX8_press_1 : decode cX8_press 1 = .ok (.getfield 38, 3) := by decide +kernel
theorem dX8_press_4 : decode cX8_press 4 = .ok (.invokevirtual 134, 3) := by decide +kernel
theorem dX8_press_7 : decode cX8_press 7 = .ok (.ireturn, 1) := by decide +kernel
theorem dX8_hold_0 : decode cX8_hold 0 = .ok (.aload_n 0, 1) := by decide +kernel
theorem dX8_hold_1 : decode cX8_hold 1 = .ok (.getfield 38, 3) := by decide +kernel
theorem dX8_hold_4 : decode cX8_hold 4 = .ok (.invokevirtual 138, 3) := by decide +kernel
theorem dX8_hold_7 : decode cX8_hold 7 = .ok (.ireturn, 1) := by decide +kernel
theorem dX8_tick_0 : decode cX8_tick 0 = .ok (.iload_n 1, 1) := by decide +kernel
theorem dX8_tick_1 : decode cX8_tick 1 = .ok (.iconst 1, 1) := by decide +kernel
theorem dX8_tick_2 : decode cX8_tick 2 = .ok (.if_icmp .lt 9, 3) := by decide +kernel
theorem dX8_tick_5 : decode cX8_tick 5 = .ok (.iload_n 1, 1) := by decide +kernel
theorem dX8_tick_6 : decode cX8_tick 6 = .ok (.bipush 99, 2) := by decide +kernel
theorem dX8_tick_8 : decode cX8_tick 8 = .ok (.if_icmp .le 13, 3) := by decide +kernel
theorem dX8_tick_11 : decode cX8_tick 11 = .ok (.new 77, 3) := by decide +kernel
theorem dX8_tick_14 : decode cX8_tick 14 = .ok (.dup, 1) := by decide +kernel
theorem dX8_tick_15 : decode cX8_tick 15 = .ok (.ldc 141, 2) := by decide +kernel
theorem dX8_tick_17 : decode cX8_tick 17 = .ok (.invokespecial 81, 3) := by decide +kernel
theorem dX8_tick_20 : decode cX8_tick 20 = .ok (.athrow, 1) := by decide +kernel
theorem dX8_tick_21 : decode cX8_tick 21 = .ok (.aload_n 0, 1) := by decide +kernel
theorem dX8_tick_22 : decode cX8_tick 22 = .ok (.getfield 38, 3) := by decide +kernel
theorem dX8_tick_25 : decode cX8_tick 25 = .ok (.iload_n 1, 1) := by decide +kernel
theorem dX8_tick_26 : decode cX8_tick 26 = .ok (.invokevirtual 143, 3) := by decide +kernel
theorem dX8_tick_29 : decode cX8_tick 29 = .ok (.ireturn, 1) := by decide +kernel
theorem dX8_set_0 : decode cX8_set 0 = .ok (.iload_n 1, 1) := by decide +kernel
theorem dX8_set_1 : decode cX8_set 1 = .ok (.ifCond .lt 8, 3) := by decide +kernel
theorem dX8_set_4 : decode cX8_set 4 = .ok (.iload_n 1, 1) := by decide +kernel
theorem dX8_set_5 : decode cX8_set 5 = .ok (.iconst 3, 1) := by decide +kernel
theorem dX8_set_6 : decode cX8_set 6 = .ok (.if_icmp .lt 13, 3) := by decide +kernel
theorem dX8_set_9 : decode cX8_set 9 = .ok (.new 146, 3) := by decide +kernel
theorem dX8_set_12 : decode cX8_set 12 = .ok (.dup, 1) := by decide +kernel
theorem dX8_set_13 : decode cX8_set 13 = .ok (.ldc 148, 2) := by decide +kernel
theorem dX8_set_15 : decode cX8_set 15 = .ok (.invokespecial 150, 3) := by decide +kernel
theorem dX8_set_18 : decode cX8_set 18 = .ok (.athrow, 1) := by decide +kernel
theorem dX8_set_19 : decode cX8_set 19 = .ok (.iload_n 2, 1) := by decide +kernel
theorem dX8_set_20 : decode cX8_set 20 = .ok (.iload_n 1, 1) := by decide +kernel
theorem dX8_set_21 : decode cX8_set 21 = .ok (.invokestatic 151, 3) := by decide +kernel
theorem dX8_set_24 : decode cX8_set 24 = .ok (.if_icmp .lt 11, 3) := by decide +kernel
theorem dX8_set_27 : decode cX8_set 27 = .ok (.iload_n 2, 1) := by decide +kernel
theorem dX8_set_28 : decode cX8_set 28 = .ok (.iload_n 1, 1) := by decide +kernel
theorem dX8_set_29 : decode cX8_set 29 = .ok (.invokestatic 154, 3) := by decide +kernel
theorem dX8_set_32 : decode cX8_set 32 = .ok (.if_icmp .le 13, 3) := by decide +kernel
theorem dX8_set_35 : decode cX8_set 35 = .ok (.new 77, 3) := by decide +kernel
theorem dX8_set_38 : decode cX8_set 38 = .ok (.dup, 1) := by decide +kernel
theorem dX8_set_39 : decode cX8_set 39 = .ok (.ldc 157, 2) := by decide +kernel
theorem dX8_set_41 : decode cX8_set 41 = .ok (.invokespecial 81, 3) := by decide +kernel
theorem dX8_set_44 : decode cX8_set 44 = .ok (.athrow, 1) := by decide +kernel
theorem dX8_set_45 : decode cX8_set 45 = .ok (.aload_n 0, 1) := by decide +kernel
theorem dX8_set_46 : decode cX8_set 46 = .ok (.getfield 38, 3) := by decide +kernel
theorem dX8_set_49 : decode cX8_set 49 = .ok (.iload_n 1, 1) := by decide +kernel
theorem dX8_set_50 : decode cX8_set 50 = .ok (.invokevirtual 159, 3) := by decide +kernel
theorem dX8_set_53 : decode cX8_set 53 = .ok (.istore_n 3, 1) := by decide +kernel
theorem dX8_set_54 : decode cX8_set 54 = .ok (.aload_n 0, 1) := by decide +kernel
theorem dX8_set_55 : decode cX8_set 55 = .ok (.getfield 38, 3) := by decide +kernel
theorem dX8_set_58 : decode cX8_set 58 = .ok (.iload_n 1, 1) := by decide +kernel
theorem dX8_set_59 : decode cX8_set 59 = .ok (.iload_n 2, 1) := by decide +kernel
theorem dX8_set_60 : decode cX8_set 60 = .ok (.invokevirtual 162, 3) := by decide +kernel
theorem dX8_set_63 : decode cX8_set 63 = .ok (.iload_n 3, 1) := by decide +kernel
theorem dX8_set_64 : decode cX8_set 64 = .ok (.ireturn, 1) := by decide +kernel
theorem dX8_takeBack_0 : decode cX8_takeBack 0 = .ok (.aload_n 0, 1) := by decide +kernel
theorem dX8_takeBack_1 : decode cX8_takeBack 1 = .ok (.getfield 19, 3) := by decide +kernel
theorem dX8_takeBack_4 : decode cX8_takeBack 4 = .ok (.invokevirtual 166, 3) := by decide +kernel
theorem dX8_takeBack_7 : decode cX8_takeBack 7 = .ok (.astore_n 1, 1) := by decide +kernel
theorem dX8_takeBack_8 : decode cX8_takeBack 8 = .ok (.aload_n 1, 1) := by decide +kernel
theorem dX8_takeBack_9 : decode cX8_takeBack 9 = .ok (.ifnonnull 13, 3) := by decide +kernel
theorem dX8_takeBack_12 : decode cX8_takeBack 12 = .ok (.new 66, 3) := by decide +kernel
theorem dX8_takeBack_15 : decode cX8_takeBack 15 = .ok (.dup, 1) := by decide +kernel
theorem dX8_takeBack_16 : decode cX8_takeBack 16 = .ok (.ldc 170, 2) := by decide +kernel
theorem dX8_takeBack_18 : decode cX8_takeBack 18 = .ok (.invokespecial 70, 3) := by decide +kernel
theorem dX8_takeBack_21 : decode cX8_takeBack 21 = .ok (.athrow, 1) := by decide +kernel
theorem dX8_takeBack_22 : decode cX8_takeBack 22 = .ok (.aload_n 1, 1) := by decide +kernel
theorem dX8_takeBack_23 : decode cX8_takeBack 23 = .ok (.aload_n 0, 1) := by decide +kernel
theorem dX8_takeBack_24 : decode cX8_takeBack 24 = .ok (.getfield 19, 3) := by decide +kernel
theorem dX8_takeBack_27 : decode cX8_takeBack 27 = .ok (.invokevirtual 172, 3) := by decide +kernel
theorem dX8_takeBack_30 : decode cX8_takeBack 30 = .ok (.putfield 119, 3) := by decide +kernel
theorem dX8_takeBack_33 : decode cX8_takeBack 33 = .ok (.aload_n 0, 1) := by decide +kernel
theorem dX8_takeBack_34 : decode cX8_takeBack 34 = .ok (.getfield 19, 3) := by decide +kernel
theorem dX8_takeBack_37 : decode cX8_takeBack 37 = .ok (.invokevirtual 175, 3) := by decide +kernel
theorem dX8_takeBack_40 : decode cX8_takeBack 40 = .ok (.aload_n 0, 1) := by decide +kernel
theorem dX8_takeBack_41 : decode cX8_takeBack 41 = .ok (.getfield 38, 3) := by decide +kernel
theorem dX8_takeBack_44 : decode cX8_takeBack 44 = .ok (.iconst 3, 1) := by decide +kernel
theorem dX8_takeBack_45 : decode cX8_takeBack 45 = .ok (.iconst 1, 1) := by decide +kernel
theorem dX8_takeBack_46 : decode cX8_takeBack 46 = .ok (.invokevirtual 178, 3) := by decide +kernel
theorem dX8_takeBack_49 : decode cX8_takeBack 49 = .ok (.aload_n 1, 1) := by decide +kernel
theorem dX8_takeBack_50 : decode cX8_takeBack 50 = .ok (.getfield 180, 3) := by decide +kernel
theorem dX8_takeBack_53 : decode cX8_takeBack 53 = .ok (.ireturn, 1) := by decide +kernel
theorem dX8_savePreset_0 : decode cX8_savePreset 0 = .ok (.aload_n 0, 1) := by decide +kernel
theorem dX8_savePreset_1 : decode cX8_savePreset 1 = .ok (.iload_n 1, 1) := by decide +kernel
theorem dX8_savePreset_2 : decode cX8_savePreset 2 = .ok (.invokevirtual 183, 3) := by decide +kernel
theorem dX8_savePreset_5 : decode cX8_savePreset 5 = .ok (.aload_n 0, 1) := by decide +kernel
theorem dX8_savePreset_6 : decode cX8_savePreset 6 = .ok (.getfield 10, 3) := by decide +kernel
theorem dX8_savePreset_9 : decode cX8_savePreset 9 = .ok (.invokevirtual 187, 3) := by decide +kernel
theorem dX8_savePreset_12 : decode cX8_savePreset 12 = .ok (.ireturn, 1) := by decide +kernel
theorem dX8_loadPreset_0 : decode cX8_loadPreset 0 = .ok (.aload_n 0, 1) := by decide +kernel
theorem dX8_loadPreset_1 : decode cX8_loadPreset 1 = .ok (.iload_n 1, 1) := by decide +kernel
theorem dX8_loadPreset_2 : decode cX8_loadPreset 2 = .ok (.invokevirtual 183, 3) := by decide +kernel
theorem dX8_loadPreset_5 : decode cX8_loadPreset 5 = .ok (.astore_n 2, 1) := by decide +kernel
theorem dX8_loadPreset_6 : decode cX8_loadPreset 6 = .ok (.aload_n 2, 1) := by decide +kernel
theorem dX8_loadPreset_7 : decode cX8_loadPreset 7 = .ok (.getfield 191, 3) := by decide +kernel
theorem dX8_loadPreset_10 : decode cX8_loadPreset 10 = .ok (.ifCond .ne 13, 3) := by decide +kernel
theorem dX8_loadPreset_13 : decode cX8_loadPreset 13 = .ok (.new 66, 3) := by decide +kernel
theorem dX8_loadPreset_16 : decode cX8_loadPreset 16 = .ok (.dup, 1) := by decide +kernel
theorem dX8_loadPreset_17 : decode cX8_loadPreset 17 = .ok (.ldc 194, 2) := by decide +kernel
theorem dX8_loadPreset_19 : decode cX8_loadPreset 19 = .ok (.invokespecial 70, 3) := by decide +kernel
theorem dX8_loadPreset_22 : decode cX8_loadPreset 22 = .ok (.athrow, 1) := by decide +kernel
theorem dX8_loadPreset_23 : decode cX8_loadPreset 23 = .ok (.aload_n 0, 1) := by decide +kernel
theorem dX8_loadPreset_24 : decode cX8_loadPreset 24 = .ok (.getfield 19, 3) := by decide +kernel
theorem dX8_loadPreset_27 : decode cX8_loadPreset 27 = .ok (.invokevirtual 196, 3) := by decide +kernel
theorem dX8_loadPreset_30 : decode cX8_loadPreset 30 = .ok (.aload_n 2, 1) := by decide +kernel
theorem dX8_loadPreset_31 : decode cX8_loadPreset 31 = .ok (.aload_n 0, 1) := by decide +kernel
theorem dX8_loadPreset_32 : decode cX8_loadPreset 32 = .ok (.getfield 10, 3) := by decide +kernel
theorem dX8_loadPreset_35 : decode cX8_loadPreset 35 = .ok (.invokevirtual 199, 3) := by decide +kernel
theorem dX8_loadPreset_38 : decode cX8_loadPreset 38 = .ok (.ireturn, 1) := by decide +kernel
theorem dX8_mode_0 : decode cX8_mode 0 = .ok (.aload_n 0, 1) := by decide +kernel
theorem dX8_mode_1 : decode cX8_mode 1 = .ok (.getfield 38, 3) := by decide +kernel
theorem dX8_mode_4 : decode cX8_mode 4 = .ok (.getfield 202, 3) := by decide +kernel
theorem dX8_mode_7 : decode cX8_mode 7 = .ok (.ireturn, 1) := by decide +kernel
theorem dX8_shown_0 : decode cX8_shown 0 = .ok (.aload_n 0, 1) := by decide +kernel
theorem dX8_shown_1 : decode cX8_shown 1 = .ok (.getfield 38, 3) := by decide +kernel
theorem dX8_shown_4 : decode cX8_shown 4 = .ok (.getfield 205, 3) := by decide +kernel
theorem dX8_shown_7 : decode cX8_shown 7 = .ok (.getfield 180, 3) := by decide +kernel
theorem dX8_shown_10 : decode cX8_shown 10 = .ok (.ireturn, 1) := by decide +kernel
theorem dX8_cursor_0 : decode cX8_cursor 0 = .ok (.aload_n 0, 1) := by decide +kernel
theorem dX8_cursor_1 : decode cX8_cursor 1 = .ok (.getfield 38, 3) := by decide +kernel
theorem dX8_cursor_4 : decode cX8_cursor 4 = .ok (.getfield 208, 3) := by decide +kernel
theorem dX8_cursor_7 : decode cX8_cursor 7 = .ok (.ireturn, 1) := by decide +kernel
theorem dX8_chosen_0 : decode cX8_chosen 0 = .ok (.aload_n 0, 1) := by decide +kernel
theorem dX8_chosen_1 : decode cX8_chosen 1 = .ok (.getfield 38, 3) := by decide +kernel
theorem dX8_chosen_4 : decode cX8_chosen 4 = .ok (.invokevirtual 211, 3) := by decide +kernel
theorem dX8_chosen_7 : decode cX8_chosen 7 = .ok (.invokestatic 113, 3) := by decide +kernel
theorem dX8_chosen_10 : decode cX8_chosen 10 = .ok (.ireturn, 1) := by decide +kernel
theorem dX8_draft_0 : decode cX8_draft 0 = .ok (.aload_n 0, 1) := by decide +kernel
theorem dX8_draft_1 : decode cX8_draft 1 = .ok (.getfield 38, 3) := by decide +kernel
theorem dX8_draft_4 : decode cX8_draft 4 = .ok (.getfield 202, 3) := by decide +kernel
theorem dX8_draft_7 : decode cX8_draft 7 = .ok (.iconst 1, 1) := by decide +kernel
theorem dX8_draft_8 : decode cX8_draft 8 = .ok (.if_icmp .ne 13, 3) := by decide +kernel
theorem dX8_draft_11 : decode cX8_draft 11 = .ok (.aload_n 0, 1) := by decide +kernel
theorem dX8_draft_12 : decode cX8_draft 12 = .ok (.getfield 38, 3) := by decide +kernel
theorem dX8_draft_15 : decode cX8_draft 15 = .ok (.getfield 214, 3) := by decide +kernel
theorem dX8_draft_18 : decode cX8_draft 18 = .ok (.goto 4, 3) := by decide +kernel
theorem dX8_draft_21 : decode cX8_draft 21 = .ok (.iconst 0, 1) := by decide +kernel
theorem dX8_draft_22 : decode cX8_draft 22 = .ok (.ireturn, 1) := by decide +kernel
theorem dX8_idle_0 : decode cX8_idle 0 = .ok (.aload_n 0, 1) := by decide +kernel
theorem dX8_idle_1 : decode cX8_idle 1 = .ok (.getfield 38, 3) := by decide +kernel
theorem dX8_idle_4 : decode cX8_idle 4 = .ok (.getfield 217, 3) := by decide +kernel
theorem dX8_idle_7 : decode cX8_idle 7 = .ok (.ireturn, 1) := by decide +kernel
theorem dX8_barred_0 : decode cX8_barred 0 = .ok (.aload_n 0, 1) := by decide +kernel
theorem dX8_barred_1 : decode cX8_barred 1 = .ok (.getfield 38, 3) := by decide +kernel
theorem dX8_barred_4 : decode cX8_barred 4 = .ok (.getfield 220, 3) := by decide +kernel
theorem dX8_barred_7 : decode cX8_barred 7 = .ok (.ireturn, 1) := by decide +kernel
theorem dX8_logged_0 : decode cX8_logged 0 = .ok (.aload_n 0, 1) := by decide +kernel
theorem dX8_logged_1 : decode cX8_logged 1 = .ok (.getfield 19, 3) := by decide +kernel
theorem dX8_logged_4 : decode cX8_logged 4 = .ok (.getfield 223, 3) := by decide +kernel
theorem dX8_logged_7 : decode cX8_logged 7 = .ok (.ireturn, 1) := by decide +kernel
theorem dX8_isHome_0 : decode cX8_isHome 0 = .ok (.aload_n 0, 1) := by decide +kernel
theorem dX8_isHome_1 : decode cX8_isHome 1 = .ok (.getfield 38, 3) := by decide +kernel
theorem dX8_isHome_4 : decode cX8_isHome 4 = .ok (.invokevirtual 224, 3) := by decide +kernel
theorem dX8_isHome_7 : decode cX8_isHome 7 = .ok (.ireturn, 1) := by decide +kernel
theorem dX8_display_0 : decode cX8_display 0 = .ok (.iload_n 1, 1) := by decide +kernel
theorem dX8_display_1 : decode cX8_display 1 = .ok (.ifCond .lt 18, 3) := by decide +kernel
theorem dX8_display_4 : decode cX8_display 4 = .ok (.iload_n 1, 1) := by decide +kernel
theorem dX8_display_5 : decode cX8_display 5 = .ok (.iconst 2, 1) := by decide +kernel
theorem dX8_display_6 : decode cX8_display 6 = .ok (.if_icmp .ge 13, 3) := by decide +kernel
theorem dX8_display_9 : decode cX8_display 9 = .ok (.iload_n 2, 1) := by decide +kernel
theorem dX8_display_10 : decode cX8_display 10 = .ok (.ifCond .lt 9, 3) := by decide +kernel
theorem dX8_display_13 : decode cX8_display 13 = .ok (.iload_n 2, 1) := by decide +kernel
theorem dX8_display_14 : decode cX8_display 14 = .ok (.bipush 16, 2) := by decide +kernel
theorem dX8_display_16 : decode cX8_display 16 = .ok (.if_icmp .lt 13, 3) := by decide +kernel
theorem dX8_display_19 : decode cX8_display 19 = .ok (.new 146, 3) := by decide +kernel
theorem dX8_display_22 : decode cX8_display 22 = .ok (.dup, 1) := by decide +kernel
theorem dX8_display_23 : decode cX8_display 23 = .ok (.ldc 227, 2) := by decide +kernel
theorem dX8_display_25 : decode cX8_display 25 = .ok (.invokespecial 150, 3) := by decide +kernel
theorem dX8_display_28 : decode cX8_display 28 = .ok (.athrow, 1) := by decide +kernel
theorem dX8_display_29 : decode cX8_display 29 = .ok (.aload_n 0, 1) := by decide +kernel
theorem dX8_display_30 : decode cX8_display 30 = .ok (.getfield 45, 3) := by decide +kernel
theorem dX8_display_33 : decode cX8_display 33 = .ok (.aload_n 0, 1) := by decide +kernel
theorem dX8_display_34 : decode cX8_display 34 = .ok (.getfield 38, 3) := by decide +kernel
theorem dX8_display_37 : decode cX8_display 37 = .ok (.invokevirtual 229, 3) := by decide +kernel
theorem dX8_display_40 : decode cX8_display 40 = .ok (.aload_n 0, 1) := by decide +kernel
theorem dX8_display_41 : decode cX8_display 41 = .ok (.getfield 45, 3) := by decide +kernel
theorem dX8_display_44 : decode cX8_display 44 = .ok (.iload_n 1, 1) := by decide +kernel
theorem dX8_display_45 : decode cX8_display 45 = .ok (.iload_n 2, 1) := by decide +kernel
theorem dX8_display_46 : decode cX8_display 46 = .ok (.invokevirtual 233, 3) := by decide +kernel
theorem dX8_display_49 : decode cX8_display 49 = .ok (.ireturn, 1) := by decide +kernel
theorem dX8_events_0 : decode cX8_events 0 = .ok (.iload_n 1, 1) := by decide +kernel
theorem dX8_events_1 : decode cX8_events 1 = .ok (.ifCond .lt 9, 3) := by decide +kernel
theorem dX8_events_4 : decode cX8_events 4 = .ok (.iload_n 1, 1) := by decide +kernel
theorem dX8_events_5 : decode cX8_events 5 = .ok (.bipush 8, 2) := by decide +kernel
theorem dX8_events_7 : decode cX8_events 7 = .ok (.if_icmp .lt 13, 3) := by decide +kernel
theorem dX8_events_10 : decode cX8_events 10 = .ok (.new 146, 3) := by decide +kernel
theorem dX8_events_13 : decode cX8_events 13 = .ok (.dup, 1) := by decide +kernel
theorem dX8_events_14 : decode cX8_events 14 = .ok (.ldc 237, 2) := by decide +kernel
theorem dX8_events_16 : decode cX8_events 16 = .ok (.invokespecial 150, 3) := by decide +kernel
theorem dX8_events_19 : decode cX8_events 19 = .ok (.athrow, 1) := by decide +kernel
theorem dX8_events_20 : decode cX8_events 20 = .ok (.aload_n 0, 1) := by decide +kernel
theorem dX8_events_21 : decode cX8_events 21 = .ok (.getfield 38, 3) := by decide +kernel
theorem dX8_events_24 : decode cX8_events 24 = .ok (.iload_n 1, 1) := by decide +kernel
theorem dX8_events_25 : decode cX8_events 25 = .ok (.invokevirtual 239, 3) := by decide +kernel
theorem dX8_events_28 : decode cX8_events 28 = .ok (.ireturn, 1) := by decide +kernel
theorem dX8_ifTurned_0 : decode cX8_ifTurned 0 = .ok (.iload_n 1, 1) := by decide +kernel
theorem dX8_ifTurned_1 : decode cX8_ifTurned 1 = .ok (.invokestatic 126, 3) := by decide +kernel
theorem dX8_ifTurned_4 : decode cX8_ifTurned 4 = .ok (.aload_n 0, 1) := by decide +kernel
theorem dX8_ifTurned_5 : decode cX8_ifTurned 5 = .ok (.getfield 38, 3) := by decide +kernel
theorem dX8_ifTurned_8 : decode cX8_ifTurned 8 = .ok (.iload_n 1, 1) := by decide +kernel
theorem dX8_ifTurned_9 : decode cX8_ifTurned 9 = .ok (.invokevirtual 242, 3) := by decide +kernel
theorem dX8_ifTurned_12 : decode cX8_ifTurned 12 = .ok (.ireturn, 1) := by decide +kernel
theorem dX8_pressesTo_0 : decode cX8_pressesTo 0 = .ok (.aload_n 0, 1) := by decide +kernel
theorem dX8_pressesTo_1 : decode cX8_pressesTo 1 = .ok (.iload_n 1, 1) := by decide +kernel
theorem dX8_pressesTo_2 : decode cX8_pressesTo 2 = .ok (.invokevirtual 86, 3) := by decide +kernel
theorem dX8_pressesTo_5 : decode cX8_pressesTo 5 = .ok (.getfield 60, 3) := by decide +kernel
theorem dX8_pressesTo_8 : decode cX8_pressesTo 8 = .ok (.ireturn, 1) := by decide +kernel
theorem dX8_detentsTo_0 : decode cX8_detentsTo 0 = .ok (.aload_n 0, 1) := by decide +kernel
theorem dX8_detentsTo_1 : decode cX8_detentsTo 1 = .ok (.getfield 38, 3) := by decide +kernel
theorem dX8_detentsTo_4 : decode cX8_detentsTo 4 = .ok (.aload_n 0, 1) := by decide +kernel
theorem dX8_detentsTo_5 : decode cX8_detentsTo 5 = .ok (.iload_n 1, 1) := by decide +kernel
theorem dX8_detentsTo_6 : decode cX8_detentsTo 6 = .ok (.invokevirtual 86, 3) := by decide +kernel
theorem dX8_detentsTo_9 : decode cX8_detentsTo 9 = .ok (.invokevirtual 245, 3) := by decide +kernel
theorem dX8_detentsTo_12 : decode cX8_detentsTo 12 = .ok (.ireturn, 1) := by decide +kernel
theorem dX8_codesTo_0 : decode cX8_codesTo 0 = .ok (.iconst 0, 1) := by decide +kernel
theorem dX8_codesTo_1 : decode cX8_codesTo 1 = .ok (.istore_n 2, 1) := by decide +kernel
theorem dX8_codesTo_2 : decode cX8_codesTo 2 = .ok (.aload_n 0, 1) := by decide +kernel
theorem dX8_codesTo_3 : decode cX8_codesTo 3 = .ok (.iload_n 1, 1) := by decide +kernel
theorem dX8_codesTo_4 : decode cX8_codesTo 4 = .ok (.invokevirtual 86, 3) := by decide +kernel
theorem dX8_codesTo_7 : decode cX8_codesTo 7 = .ok (.astore_n 3, 1) := by decide +kernel
theorem dX8_codesTo_8 : decode cX8_codesTo 8 = .ok (.aload_n 3, 1) := by decide +kernel
theorem dX8_codesTo_9 : decode cX8_codesTo 9 = .ok (.ifnull 21, 3) := by decide +kernel
theorem dX8_codesTo_12 : decode cX8_codesTo 12 = .ok (.aload_n 3, 1) := by decide +kernel
theorem dX8_codesTo_13 : decode cX8_codesTo 13 = .ok (.invokevirtual 122, 3) := by decide +kernel
theorem dX8_codesTo_16 : decode cX8_codesTo 16 = .ok (.ifCond .eq 6, 3) := by decide +kernel
theorem dX8_codesTo_19 : decode cX8_codesTo 19 = .ok (.iinc 2 1, 3) := by decide +kernel
theorem dX8_codesTo_22 : decode cX8_codesTo 22 = .ok (.aload_n 3, 1) := by decide +kernel
theorem dX8_codesTo_23 : decode cX8_codesTo 23 = .ok (.getfield 89, 3) := by decide +kernel
theorem dX8_codesTo_26 : decode cX8_codesTo 26 = .ok (.astore_n 3, 1) := by decide +kernel
theorem dX8_codesTo_27 : decode cX8_codesTo 27 = .ok (.goto (-19), 3) := by decide +kernel
theorem dX8_codesTo_30 : decode cX8_codesTo 30 = .ok (.iload_n 2, 1) := by decide +kernel
theorem dX8_codesTo_31 : decode cX8_codesTo 31 = .ok (.ireturn, 1) := by decide +kernel
theorem dX8_ticksToHome_0 : decode cX8_ticksToHome 0 = .ok (.aload_n 0, 1) := by decide +kernel
theorem dX8_ticksToHome_1 : decode cX8_ticksToHome 1 = .ok (.getfield 38, 3) := by decide +kernel
theorem dX8_ticksToHome_4 : decode cX8_ticksToHome 4 = .ok (.invokevirtual 248, 3) := by decide +kernel
theorem dX8_ticksToHome_7 : decode cX8_ticksToHome 7 = .ok (.ireturn, 1) := by decide +kernel
theorem dX8_fraction_0 : decode cX8_fraction 0 = .ok (.iconst 0, 1) := by decide +kernel
theorem dX8_fraction_1 : decode cX8_fraction 1 = .ok (.istore_n 1, 1) := by decide +kernel
theorem dX8_fraction_2 : decode cX8_fraction 2 = .ok (.iconst 0, 1) := by decide +kernel
theorem dX8_fraction_3 : decode cX8_fraction 3 = .ok (.istore_n 2, 1) := by decide +kernel
theorem dX8_fraction_4 : decode cX8_fraction 4 = .ok (.iconst 0, 1) := by decide +kernel
theorem dX8_fraction_5 : decode cX8_fraction 5 = .ok (.istore_n 3, 1) := by decide +kernel
theorem dX8_fraction_6 : decode cX8_fraction 6 = .ok (.iload_n 3, 1) := by decide +kernel
theorem dX8_fraction_7 : decode cX8_fraction 7 = .ok (.aload_n 0, 1) := by decide +kernel
theorem dX8_fraction_8 : decode cX8_fraction 8 = .ok (.getfield 10, 3) := by decide +kernel
theorem dX8_fraction_11 : decode cX8_fraction 11 = .ok (.getfield 107, 3) := by decide +kernel
theorem dX8_fraction_14 : decode cX8_fraction 14 = .ok (.if_icmp .ge 61, 3) := by decide +kernel
theorem dX8_fraction_17 : decode cX8_fraction 17 = .ok (.aload_n 0, 1) := by decide +kernel
theorem dX8_fraction_18 : decode cX8_fraction 18 = .ok (.getfield 10, 3) := by decide +kernel
theorem dX8_fraction_21 : decode cX8_fraction 21 = .ok (.iload_n 3, 1) := by decide +kernel
theorem dX8_fraction_22 : decode cX8_fraction 22 = .ok (.invokevirtual 251, 3) := by decide +kernel
theorem dX8_fraction_25 : decode cX8_fraction 25 = .ok (.astore 4, 2) := by decide +kernel
theorem dX8_fraction_27 : decode cX8_fraction 27 = .ok (.aload 4, 2) := by decide +kernel
theorem dX8_fraction_29 : decode cX8_fraction 29 = .ok (.ifnull 40, 3) := by decide +kernel
theorem dX8_fraction_32 : decode cX8_fraction 32 = .ok (.aload 4, 2) := by decide +kernel
theorem dX8_fraction_34 : decode cX8_fraction 34 = .ok (.getfield 110, 3) := by decide +kernel
theorem dX8_fraction_37 : decode cX8_fraction 37 = .ok (.iconst 1, 1) := by decide +kernel
theorem dX8_fraction_38 : decode cX8_fraction 38 = .ok (.if_icmp .ne 31, 3) := by decide +kernel
theorem dX8_fraction_41 : decode cX8_fraction 41 = .ok (.iload_n 1, 1) := by decide +kernel
theorem dX8_fraction_42 : decode cX8_fraction 42 = .ok (.aload 4, 2) := by decide +kernel
theorem dX8_fraction_44 : decode cX8_fraction 44 = .ok (.getfield 119, 3) := by decide +kernel
theorem dX8_fraction_47 : decode cX8_fraction 47 = .ok (.aload 4, 2) := by decide +kernel
theorem dX8_fraction_49 : decode cX8_fraction 49 = .ok (.getfield 254, 3) := by decide +kernel
theorem dX8_fraction_52 : decode cX8_fraction 52 = .ok (.isub, 1) := by decide +kernel
theorem dX8_fraction_53 : decode cX8_fraction 53 = .ok (.iadd, 1) := by decide +kernel
theorem dX8_fraction_54 : decode cX8_fraction 54 = .ok (.istore_n 1, 1) := by decide +kernel
theorem dX8_fraction_55 : decode cX8_fraction 55 = .ok (.iload_n 2, 1) := by decide +kernel
theorem dX8_fraction_56 : decode cX8_fraction 56 = .ok (.aload 4, 2) := by decide +kernel
theorem dX8_fraction_58 : decode cX8_fraction 58 = .ok (.getfield 257, 3) := by decide +kernel
theorem dX8_fraction_61 : decode cX8_fraction 61 = .ok (.aload 4, 2) := by decide +kernel
theorem dX8_fraction_63 : decode cX8_fraction 63 = .ok (.getfield 254, 3) := by decide +kernel
theorem dX8_fraction_66 : decode cX8_fraction 66 = .ok (.isub, 1) := by decide +kernel
theorem dX8_fraction_67 : decode cX8_fraction 67 = .ok (.iadd, 1) := by decide +kernel
theorem dX8_fraction_68 : decode cX8_fraction 68 = .ok (.istore_n 2, 1) := by decide +kernel
theorem dX8_fraction_69 : decode cX8_fraction 69 = .ok (.iinc 3 1, 3) := by decide +kernel
theorem dX8_fraction_72 : decode cX8_fraction 72 = .ok (.goto (-66), 3) := by decide +kernel
theorem dX8_fraction_75 : decode cX8_fraction 75 = .ok (.iload_n 2, 1) := by decide +kernel
theorem dX8_fraction_76 : decode cX8_fraction 76 = .ok (.ifCond .le 11, 3) := by decide +kernel
theorem dX8_fraction_79 : decode cX8_fraction 79 = .ok (.iload_n 1, 1) := by decide +kernel
theorem dX8_fraction_80 : decode cX8_fraction 80 = .ok (.i2d, 1) := by decide +kernel
theorem dX8_fraction_81 : decode cX8_fraction 81 = .ok (.iload_n 2, 1) := by decide +kernel
theorem dX8_fraction_82 : decode cX8_fraction 82 = .ok (.i2d, 1) := by decide +kernel
theorem dX8_fraction_83 : decode cX8_fraction 83 = .ok (.ddiv, 1) := by decide +kernel
theorem dX8_fraction_84 : decode cX8_fraction 84 = .ok (.goto 4, 3) := by decide +kernel
theorem dX8_fraction_87 : decode cX8_fraction 87 = .ok (.dconst 0, 1) := by decide +kernel
theorem dX8_fraction_88 : decode cX8_fraction 88 = .ok (.dreturn, 1) := by decide +kernel
theorem dX8_digest_0 : decode cX8_digest 0 = .ok (.aload_n 0, 1) := by decide +kernel
theorem dX8_digest_1 : decode cX8_digest 1 = .ok (.ldc2_w 297, 3) := by decide +kernel
theorem dX8_digest_4 : decode cX8_digest 4 = .ok (.invokevirtual 299, 3) := by decide +kernel
theorem dX8_digest_7 : decode cX8_digest 7 = .ok (.lstore_n 1, 1) := by decide +kernel
theorem dX8_digest_8 : decode cX8_digest 8 = .ok (.aload_n 0, 1) := by decide +kernel
theorem dX8_digest_9 : decode cX8_digest 9 = .ok (.lload_n 1, 1) := by decide +kernel
theorem dX8_digest_10 : decode cX8_digest 10 = .ok (.invokevirtual 303, 3) := by decide +kernel
theorem dX8_digest_13 : decode cX8_digest 13 = .ok (.lstore_n 1, 1) := by decide +kernel
theorem dX8_digest_14 : decode cX8_digest 14 = .ok (.iconst 0, 1) := by decide +kernel
theorem dX8_digest_15 : decode cX8_digest 15 = .ok (.istore_n 3, 1) := by decide +kernel
theorem dX8_digest_16 : decode cX8_digest 16 = .ok (.iload_n 3, 1) := by decide +kernel
theorem dX8_digest_17 : decode cX8_digest 17 = .ok (.bipush 8, 2) := by decide +kernel
theorem dX8_digest_19 : decode cX8_digest 19 = .ok (.if_icmp .ge 23, 3) := by decide +kernel
theorem dX8_digest_22 : decode cX8_digest 22 = .ok (.lload_n 1, 1) := by decide +kernel
theorem dX8_digest_23 : decode cX8_digest 23 = .ok (.aload_n 0, 1) := by decide +kernel
theorem dX8_digest_24 : decode cX8_digest 24 = .ok (.getfield 38, 3) := by decide +kernel
theorem dX8_digest_27 : decode cX8_digest 27 = .ok (.iload_n 3, 1) := by decide +kernel
theorem dX8_digest_28 : decode cX8_digest 28 = .ok (.invokevirtual 239, 3) := by decide +kernel
theorem dX8_digest_31 : decode cX8_digest 31 = .ok (.i2l, 1) := by decide +kernel
theorem dX8_digest_32 : decode cX8_digest 32 = .ok (.invokestatic 306, 3) := by decide +kernel
theorem dX8_digest_35 : decode cX8_digest 35 = .ok (.lstore_n 1, 1) := by decide +kernel
theorem dX8_digest_36 : decode cX8_digest 36 = .ok (.iinc 3 1, 3) := by decide +kernel
theorem dX8_digest_39 : decode cX8_digest 39 = .ok (.goto (-23), 3) := by decide +kernel
theorem dX8_digest_42 : decode cX8_digest 42 = .ok (.aload_n 0, 1) := by decide +kernel
theorem dX8_digest_43 : decode cX8_digest 43 = .ok (.getfield 45, 3) := by decide +kernel
theorem dX8_digest_46 : decode cX8_digest 46 = .ok (.aload_n 0, 1) := by decide +kernel
theorem dX8_digest_47 : decode cX8_digest 47 = .ok (.getfield 38, 3) := by decide +kernel
theorem dX8_digest_50 : decode cX8_digest 50 = .ok (.invokevirtual 229, 3) := by decide +kernel
theorem dX8_digest_53 : decode cX8_digest 53 = .ok (.aload_n 0, 1) := by decide +kernel
theorem dX8_digest_54 : decode cX8_digest 54 = .ok (.lload_n 1, 1) := by decide +kernel
theorem dX8_digest_55 : decode cX8_digest 55 = .ok (.invokevirtual 310, 3) := by decide +kernel
theorem dX8_digest_58 : decode cX8_digest 58 = .ok (.lstore_n 1, 1) := by decide +kernel
theorem dX8_digest_59 : decode cX8_digest 59 = .ok (.lload_n 1, 1) := by decide +kernel
theorem dX8_digest_60 : decode cX8_digest 60 = .ok (.aload_n 0, 1) := by decide +kernel
theorem dX8_digest_61 : decode cX8_digest 61 = .ok (.invokevirtual 313, 3) := by decide +kernel
theorem dX8_digest_64 : decode cX8_digest 64 = .ok (.d2f, 1) := by decide +kernel
theorem dX8_digest_65 : decode cX8_digest 65 = .ok (.invokestatic 317, 3) := by decide +kernel
theorem dX8_digest_68 : decode cX8_digest 68 = .ok (.i2l, 1) := by decide +kernel
theorem dX8_digest_69 : decode cX8_digest 69 = .ok (.invokestatic 306, 3) := by decide +kernel
theorem dX8_digest_72 : decode cX8_digest 72 = .ok (.lreturn, 1) := by decide +kernel
theorem dX8_itemNumbered_0 : decode cX8_itemNumbered 0 = .ok (.aload_n 0, 1) := by decide +kernel
theorem dX8_itemNumbered_1 : decode cX8_itemNumbered 1 = .ok (.getfield 10, 3) := by decide +kernel
theorem dX8_itemNumbered_4 : decode cX8_itemNumbered 4 = .ok (.iload_n 1, 1) := by decide +kernel
theorem dX8_itemNumbered_5 : decode cX8_itemNumbered 5 = .ok (.invokevirtual 251, 3) := by decide +kernel
theorem dX8_itemNumbered_8 : decode cX8_itemNumbered 8 = .ok (.astore_n 2, 1) := by decide +kernel
theorem dX8_itemNumbered_9 : decode cX8_itemNumbered 9 = .ok (.aload_n 2, 1) := by decide +kernel
theorem dX8_itemNumbered_10 : decode cX8_itemNumbered 10 = .ok (.ifnonnull 14, 3) := by decide +kernel
theorem dX8_itemNumbered_13 : decode cX8_itemNumbered 13 = .ok (.new 146, 3) := by decide +kernel
theorem dX8_itemNumbered_16 : decode cX8_itemNumbered 16 = .ok (.dup, 1) := by decide +kernel
theorem dX8_itemNumbered_17 : decode cX8_itemNumbered 17 = .ok (.ldc_w 321, 3) := by decide +kernel
theorem dX8_itemNumbered_20 : decode cX8_itemNumbered 20 = .ok (.invokespecial 150, 3) := by decide +kernel
theorem dX8_itemNumbered_23 : decode cX8_itemNumbered 23 = .ok (.athrow, 1) := by decide +kernel
theorem dX8_itemNumbered_24 : decode cX8_itemNumbered 24 = .ok (.aload_n 2, 1) := by decide +kernel
theorem dX8_itemNumbered_25 : decode cX8_itemNumbered 25 = .ok (.areturn, 1) := by decide +kernel
theorem dX8_menuNumbered_0 : decode cX8_menuNumbered 0 = .ok (.aload_n 0, 1) := by decide +kernel
theorem dX8_menuNumbered_1 : decode cX8_menuNumbered 1 = .ok (.iload_n 1, 1) := by decide +kernel
theorem dX8_menuNumbered_2 : decode cX8_menuNumbered 2 = .ok (.invokevirtual 86, 3) := by decide +kernel
theorem dX8_menuNumbered_5 : decode cX8_menuNumbered 5 = .ok (.astore_n 2, 1) := by decide +kernel
theorem dX8_menuNumbered_6 : decode cX8_menuNumbered 6 = .ok (.aload_n 2, 1) := by decide +kernel
theorem dX8_menuNumbered_7 : decode cX8_menuNumbered 7 = .ok (.getfield 110, 3) := by decide +kernel
theorem dX8_menuNumbered_10 : decode cX8_menuNumbered 10 = .ok (.ifCond .eq 14, 3) := by decide +kernel
theorem dX8_menuNumbered_13 : decode cX8_menuNumbered 13 = .ok (.new 77, 3) := by decide +kernel
theorem dX8_menuNumbered_16 : decode cX8_menuNumbered 16 = .ok (.dup, 1) := by decide +kernel
theorem dX8_menuNumbered_17 : decode cX8_menuNumbered 17 = .ok (.ldc_w 323, 3) := by decide +kernel
theorem dX8_menuNumbered_20 : decode cX8_menuNumbered 20 = .ok (.invokespecial 81, 3) := by decide +kernel
theorem dX8_menuNumbered_23 : decode cX8_menuNumbered 23 = .ok (.athrow, 1) := by decide +kernel
theorem dX8_menuNumbered_24 : decode cX8_menuNumbered 24 = .ok (.aload_n 2, 1) := by decide +kernel
theorem dX8_menuNumbered_25 : decode cX8_menuNumbered 25 = .ok (.areturn, 1) := by decide +kernel
theorem dX8_presetNumbered_0 : decode cX8_presetNumbered 0 = .ok (.iload_n 1, 1) := by decide +kernel
theorem dX8_presetNumbered_1 : decode cX8_presetNumbered 1 = .ok (.ifCond .lt 8, 3) := by decide +kernel
theorem dX8_presetNumbered_4 : decode cX8_presetNumbered 4 = .ok (.iload_n 1, 1) := by decide +kernel
theorem dX8_presetNumbered_5 : decode cX8_presetNumbered 5 = .ok (.iconst 1, 1) := by decide +kernel
theorem dX8_presetNumbered_6 : decode cX8_presetNumbered 6 = .ok (.if_icmp .le 14, 3) := by decide +kernel
theorem dX8_presetNumbered_9 : decode cX8_presetNumbered 9 = .ok (.new 77, 3) := by decide +kernel
theorem dX8_presetNumbered_12 : decode cX8_presetNumbered 12 = .ok (.dup, 1) := by decide +kernel
theorem dX8_presetNumbered_13 : decode cX8_presetNumbered 13 = .ok (.ldc_w 325, 3) := by decide +kernel
theorem dX8_presetNumbered_16 : decode cX8_presetNumbered 16 = .ok (.invokespecial 81, 3) := by decide +kernel
theorem dX8_presetNumbered_19 : decode cX8_presetNumbered 19 = .ok (.athrow, 1) := by decide +kernel
theorem dX8_presetNumbered_20 : decode cX8_presetNumbered 20 = .ok (.iload_n 1, 1) := by decide +kernel
theorem dX8_presetNumbered_21 : decode cX8_presetNumbered 21 = .ok (.ifCond .ne 10, 3) := by decide +kernel
theorem dX8_presetNumbered_24 : decode cX8_presetNumbered 24 = .ok (.aload_n 0, 1) := by decide +kernel
theorem dX8_presetNumbered_25 : decode cX8_presetNumbered 25 = .ok (.getfield 26, 3) := by decide +kernel
theorem dX8_presetNumbered_28 : decode cX8_presetNumbered 28 = .ok (.goto 7, 3) := by decide +kernel
theorem dX8_presetNumbered_31 : decode cX8_presetNumbered 31 = .ok (.aload_n 0, 1) := by decide +kernel
theorem dX8_presetNumbered_32 : decode cX8_presetNumbered 32 = .ok (.getfield 30, 3) := by decide +kernel
theorem dX8_presetNumbered_35 : decode cX8_presetNumbered 35 = .ok (.areturn, 1) := by decide +kernel
theorem dX8_numberOf_0 : decode cX8_numberOf 0 = .ok (.aload_n 0, 1) := by decide +kernel
theorem dX8_numberOf_1 : decode cX8_numberOf 1 = .ok (.ifnonnull 7, 3) := by decide +kernel
theorem dX8_numberOf_4 : decode cX8_numberOf 4 = .ok (.iconst (-1), 1) := by decide +kernel
theorem dX8_numberOf_5 : decode cX8_numberOf 5 = .ok (.goto 7, 3) := by decide +kernel
theorem dX8_numberOf_8 : decode cX8_numberOf 8 = .ok (.aload_n 0, 1) := by decide +kernel
theorem dX8_numberOf_9 : decode cX8_numberOf 9 = .ok (.getfield 180, 3) := by decide +kernel
theorem dX8_numberOf_12 : decode cX8_numberOf 12 = .ok (.ireturn, 1) := by decide +kernel
theorem dX8_leastOf_0 : decode cX8_leastOf 0 = .ok (.iload_n 0, 1) := by decide +kernel
theorem dX8_leastOf_1 : decode cX8_leastOf 1 = .ok (.iconst 2, 1) := by decide +kernel
theorem dX8_leastOf_2 : decode cX8_leastOf 2 = .ok (.if_icmp .ne 7, 3) := by decide +kernel
theorem dX8_leastOf_5 : decode cX8_leastOf 5 = .ok (.iconst 0, 1) := by decide +kernel
theorem dX8_leastOf_6 : decode cX8_leastOf 6 = .ok (.goto 4, 3) := by decide +kernel
theorem dX8_leastOf_9 : decode cX8_leastOf 9 = .ok (.iconst 1, 1) := by decide +kernel
theorem dX8_leastOf_10 : decode cX8_leastOf 10 = .ok (.ireturn, 1) := by decide +kernel
theorem dX8_mostOf_0 : decode cX8_mostOf 0 = .ok (.iload_n 0, 1) := by decide +kernel
theorem dX8_mostOf_1 : decode cX8_mostOf 1 = .ok (.ifCond .ne 6, 3) := by decide +kernel
theorem dX8_mostOf_4 : decode cX8_mostOf 4 = .ok (.bipush 60, 2) := by decide +kernel
theorem dX8_mostOf_6 : decode cX8_mostOf 6 = .ok (.ireturn, 1) := by decide +kernel
theorem dX8_mostOf_7 : decode cX8_mostOf 7 = .ok (.iload_n 0, 1) := by decide +kernel
theorem dX8_mostOf_8 : decode cX8_mostOf 8 = .ok (.iconst 1, 1) := by decide +kernel
theorem dX8_mostOf_9 : decode cX8_mostOf 9 = .ok (.if_icmp .ne 8, 3) := by decide +kernel
theorem dX8_mostOf_12 : decode cX8_mostOf 12 = .ok (.bipush 99, 2) := by decide +kernel
theorem dX8_mostOf_14 : decode cX8_mostOf 14 = .ok (.goto 4, 3) := by decide +kernel
theorem dX8_mostOf_17 : decode cX8_mostOf 17 = .ok (.iconst 1, 1) := by decide +kernel
theorem dX8_mostOf_18 : decode cX8_mostOf 18 = .ok (.ireturn, 1) := by decide +kernel
theorem dX8_requireHome_0 : decode cX8_requireHome 0 = .ok (.aload_n 0, 1) := by decide +kernel
theorem dX8_requireHome_1 : decode cX8_requireHome 1 = .ok (.getfield 38, 3) := by decide +kernel
theorem dX8_requireHome_4 : decode cX8_requireHome 4 = .ok (.invokevirtual 224, 3) := by decide +kernel
theorem dX8_requireHome_7 : decode cX8_requireHome 7 = .ok (.ifCond .ne 14, 3) := by decide +kernel
theorem dX8_requireHome_10 : decode cX8_requireHome 10 = .ok (.new 66, 3) := by decide +kernel
theorem dX8_requireHome_13 : decode cX8_requireHome 13 = .ok (.dup, 1) := by decide +kernel
theorem dX8_requireHome_14 : decode cX8_requireHome 14 = .ok (.ldc_w 327, 3) := by decide +kernel
theorem dX8_requireHome_17 : decode cX8_requireHome 17 = .ok (.invokespecial 70, 3) := by decide +kernel
theorem dX8_requireHome_20 : decode cX8_requireHome 20 = .ok (.athrow, 1) := by decide +kernel
theorem dX8_requireHome_21 : decode cX8_requireHome 21 = .ok (.return_, 1) := by decide +kernel
theorem dX8_requireDetents_0 : decode cX8_requireDetents 0 = .ok (.iload_n 0, 1) := by decide +kernel
theorem dX8_requireDetents_1 : decode cX8_requireDetents 1 = .ok (.bipush (-50), 2) := by decide +kernel
theorem dX8_requireDetents_3 : decode cX8_requireDetents 3 = .ok (.if_icmp .lt 9, 3) := by decide +kernel
theorem dX8_requireDetents_6 : decode cX8_requireDetents 6 = .ok (.iload_n 0, 1) := by decide +kernel
theorem dX8_requireDetents_7 : decode cX8_requireDetents 7 = .ok (.bipush 50, 2) := by decide +kernel
theorem dX8_requireDetents_9 : decode cX8_requireDetents 9 = .ok (.if_icmp .le 14, 3) := by decide +kernel
theorem dX8_requireDetents_12 : decode cX8_requireDetents 12 = .ok (.new 77, 3) := by decide +kernel
theorem dX8_requireDetents_15 : decode cX8_requireDetents 15 = .ok (.dup, 1) := by decide +kernel
theorem dX8_requireDetents_16 : decode cX8_requireDetents 16 = .ok (.ldc_w 329, 3) := by decide +kernel
theorem dX8_requireDetents_19 : decode cX8_requireDetents 19 = .ok (.invokespecial 81, 3) := by decide +kernel
theorem dX8_requireDetents_22 : decode cX8_requireDetents 22 = .ok (.athrow, 1) := by decide +kernel
theorem dX8_requireDetents_23 : decode cX8_requireDetents 23 = .ok (.return_, 1) := by decide +kernel
theorem dX8_added_0 : decode cX8_added 0 = .ok (.aload_n 0, 1) := by decide +kernel
theorem dX8_added_1 : decode cX8_added 1 = .ok (.invokevirtual 97, 3) := by decide +kernel
theorem dX8_added_4 : decode cX8_added 4 = .ok (.aload_n 0, 1) := by decide +kernel
theorem dX8_added_5 : decode cX8_added 5 = .ok (.getfield 10, 3) := by decide +kernel
theorem dX8_added_8 : decode cX8_added 8 = .ok (.getfield 107, 3) := by decide +kernel
theorem dX8_added_11 : decode cX8_added 11 = .ok (.bipush 24, 2) := by decide +kernel
theorem dX8_added_13 : decode cX8_added 13 = .ok (.if_icmp .lt 14, 3) := by decide +kernel
theorem dX8_added_16 : decode cX8_added 16 = .ok (.new 66, 3) := by decide +kernel
theorem dX8_added_19 : decode cX8_added 19 = .ok (.dup, 1) := by decide +kernel
theorem dX8_added_20 : decode cX8_added 20 = .ok (.ldc_w 331, 3) := by decide +kernel
theorem dX8_added_23 : decode cX8_added 23 = .ok (.invokespecial 70, 3) := by decide +kernel
theorem dX8_added_26 : decode cX8_added 26 = .ok (.athrow, 1) := by decide +kernel
theorem dX8_added_27 : decode cX8_added 27 = .ok (.aload_n 1, 1) := by decide +kernel
theorem dX8_added_28 : decode cX8_added 28 = .ok (.getfield 333, 3) := by decide +kernel
theorem dX8_added_31 : decode cX8_added 31 = .ok (.bipush 8, 2) := by decide +kernel
theorem dX8_added_33 : decode cX8_added 33 = .ok (.if_icmp .lt 14, 3) := by decide +kernel
theorem dX8_added_36 : decode cX8_added 36 = .ok (.new 66, 3) := by decide +kernel
theorem dX8_added_39 : decode cX8_added 39 = .ok (.dup, 1) := by decide +kernel
theorem dX8_added_40 : decode cX8_added 40 = .ok (.ldc_w 336, 3) := by decide +kernel
theorem dX8_added_43 : decode cX8_added 43 = .ok (.invokespecial 70, 3) := by decide +kernel
theorem dX8_added_46 : decode cX8_added 46 = .ok (.athrow, 1) := by decide +kernel
theorem dX8_added_47 : decode cX8_added 47 = .ok (.new 61, 3) := by decide +kernel
theorem dX8_added_50 : decode cX8_added 50 = .ok (.dup, 1) := by decide +kernel
theorem dX8_added_51 : decode cX8_added 51 = .ok (.aload_n 0, 1) := by decide +kernel
theorem dX8_added_52 : decode cX8_added 52 = .ok (.getfield 10, 3) := by decide +kernel
theorem dX8_added_55 : decode cX8_added 55 = .ok (.getfield 107, 3) := by decide +kernel
theorem dX8_added_58 : decode cX8_added 58 = .ok (.iload_n 2, 1) := by decide +kernel
theorem dX8_added_59 : decode cX8_added 59 = .ok (.aload_n 1, 1) := by decide +kernel
theorem dX8_added_60 : decode cX8_added 60 = .ok (.iload_n 3, 1) := by decide +kernel
theorem dX8_added_61 : decode cX8_added 61 = .ok (.iload 4, 2) := by decide +kernel
theorem dX8_added_63 : decode cX8_added 63 = .ok (.iload 5, 2) := by decide +kernel
theorem dX8_added_65 : decode cX8_added 65 = .ok (.invokespecial 338, 3) := by decide +kernel
theorem dX8_added_68 : decode cX8_added 68 = .ok (.astore 6, 2) := by decide +kernel
theorem dX8_added_70 : decode cX8_added 70 = .ok (.aload_n 1, 1) := by decide +kernel
theorem dX8_added_71 : decode cX8_added 71 = .ok (.aload 6, 2) := by decide +kernel
theorem dX8_added_73 : decode cX8_added 73 = .ok (.invokevirtual 341, 3) := by decide +kernel
theorem dX8_added_76 : decode cX8_added 76 = .ok (.aload_n 0, 1) := by decide +kernel
theorem dX8_added_77 : decode cX8_added 77 = .ok (.getfield 10, 3) := by decide +kernel
theorem dX8_added_80 : decode cX8_added 80 = .ok (.aload 6, 2) := by decide +kernel
theorem dX8_added_82 : decode cX8_added 82 = .ok (.invokevirtual 345, 3) := by decide +kernel
theorem dX8_added_85 : decode cX8_added 85 = .ok (.aload 6, 2) := by decide +kernel
theorem dX8_added_87 : decode cX8_added 87 = .ok (.getfield 180, 3) := by decide +kernel
theorem dX8_added_90 : decode cX8_added 90 = .ok (.ireturn, 1) := by decide +kernel
theorem dX8_mix_0 : decode cX8_mix 0 = .ok (.ldc2_w 347, 3) := by decide +kernel
theorem dX8_mix_3 : decode cX8_mix 3 = .ok (.lload_n 0, 1) := by decide +kernel
theorem dX8_mix_4 : decode cX8_mix 4 = .ok (.lmul, 1) := by decide +kernel
theorem dX8_mix_5 : decode cX8_mix 5 = .ok (.lload_n 2, 1) := by decide +kernel
theorem dX8_mix_6 : decode cX8_mix 6 = .ok (.ladd, 1) := by decide +kernel
theorem dX8_mix_7 : decode cX8_mix 7 = .ok (.lreturn, 1) := by decide +kernel
theorem dX8_mixPosition_0 : decode cX8_mixPosition 0 = .ok (.lload_n 1, 1) := by decide +kernel
theorem dX8_mixPosition_1 : decode cX8_mixPosition 1 = .ok (.aload_n 0, 1) := by decide +kernel
theorem dX8_mixPosition_2 : decode cX8_mixPosition 2 = .ok (.invokevirtual 349, 3) := by decide +kernel
theorem dX8_mixPosition_5 : decode cX8_mixPosition 5 = .ok (.i2l, 1) := by decide +kernel
theorem dX8_mixPosition_6 : decode cX8_mixPosition 6 = .ok (.invokestatic 306, 3) := by decide +kernel
theorem dX8_mixPosition_9 : decode cX8_mixPosition 9 = .ok (.lstore_n 3, 1) := by decide +kernel
theorem dX8_mixPosition_10 : decode cX8_mixPosition 10 = .ok (.lload_n 3, 1) := by decide +kernel
theorem dX8_mixPosition_11 : decode cX8_mixPosition 11 = .ok (.aload_n 0, 1) := by decide +kernel
theorem dX8_mixPosition_12 : decode cX8_mixPosition 12 = .ok (.invokevirtual 352, 3) := by decide +kernel
theorem dX8_mixPosition_15 : decode cX8_mixPosition 15 = .ok (.i2l, 1) := by decide +kernel
theorem dX8_mixPosition_16 : decode cX8_mixPosition 16 = .ok (.invokestatic 306, 3) := by decide +kernel
theorem dX8_mixPosition_19 : decode cX8_mixPosition 19 = .ok (.lstore_n 3, 1) := by decide +kernel
theorem dX8_mixPosition_20 : decode cX8_mixPosition 20 = .ok (.lload_n 3, 1) := by decide +kernel
theorem dX8_mixPosition_21 : decode cX8_mixPosition 21 = .ok (.aload_n 0, 1) := by decide +kernel
theorem dX8_mixPosition_22 : decode cX8_mixPosition 22 = .ok (.invokevirtual 354, 3) := by decide +kernel
theorem dX8_mixPosition_25 : decode cX8_mixPosition 25 = .ok (.i2l, 1) := by decide +kernel
theorem dX8_mixPosition_26 : decode cX8_mixPosition 26 = .ok (.invokestatic 306, 3) := by decide +kernel
theorem dX8_mixPosition_29 : decode cX8_mixPosition 29 = .ok (.lstore_n 3, 1) := by decide +kernel
theorem dX8_mixPosition_30 : decode cX8_mixPosition 30 = .ok (.lload_n 3, 1) := by decide +kernel
theorem dX8_mixPosition_31 : decode cX8_mixPosition 31 = .ok (.aload_n 0, 1) := by decide +kernel
theorem dX8_mixPosition_32 : decode cX8_mixPosition 32 = .ok (.invokevirtual 356, 3) := by decide +kernel
theorem dX8_mixPosition_35 : decode cX8_mixPosition 35 = .ok (.i2l, 1) := by decide +kernel
theorem dX8_mixPosition_36 : decode cX8_mixPosition 36 = .ok (.invokestatic 306, 3) := by decide +kernel
theorem dX8_mixPosition_39 : decode cX8_mixPosition 39 = .ok (.lstore_n 3, 1) := by decide +kernel
theorem dX8_mixPosition_40 : decode cX8_mixPosition 40 = .ok (.lload_n 3, 1) := by decide +kernel
theorem dX8_mixPosition_41 : decode cX8_mixPosition 41 = .ok (.aload_n 0, 1) := by decide +kernel
theorem dX8_mixPosition_42 : decode cX8_mixPosition 42 = .ok (.invokevirtual 358, 3) := by decide +kernel
theorem dX8_mixPosition_45 : decode cX8_mixPosition 45 = .ok (.i2l, 1) := by decide +kernel
theorem dX8_mixPosition_46 : decode cX8_mixPosition 46 = .ok (.invokestatic 306, 3) := by decide +kernel
theorem dX8_mixPosition_49 : decode cX8_mixPosition 49 = .ok (.lstore_n 3, 1) := by decide +kernel
theorem dX8_mixPosition_50 : decode cX8_mixPosition 50 = .ok (.lload_n 3, 1) := by decide +kernel
theorem dX8_mixPosition_51 : decode cX8_mixPosition 51 = .ok (.aload_n 0, 1) := by decide +kernel
theorem dX8_mixPosition_52 : decode cX8_mixPosition 52 = .ok (.invokevirtual 361, 3) := by decide +kernel
theorem dX8_mixPosition_55 : decode cX8_mixPosition 55 = .ok (.i2l, 1) := by decide +kernel
theorem dX8_mixPosition_56 : decode cX8_mixPosition 56 = .ok (.invokestatic 306, 3) := by decide +kernel
theorem dX8_mixPosition_59 : decode cX8_mixPosition 59 = .ok (.lstore_n 3, 1) := by decide +kernel
theorem dX8_mixPosition_60 : decode cX8_mixPosition 60 = .ok (.lload_n 3, 1) := by decide +kernel
theorem dX8_mixPosition_61 : decode cX8_mixPosition 61 = .ok (.aload_n 0, 1) := by decide +kernel
theorem dX8_mixPosition_62 : decode cX8_mixPosition 62 = .ok (.invokevirtual 363, 3) := by decide +kernel
theorem dX8_mixPosition_65 : decode cX8_mixPosition 65 = .ok (.i2l, 1) := by decide +kernel
theorem dX8_mixPosition_66 : decode cX8_mixPosition 66 = .ok (.invokestatic 306, 3) := by decide +kernel
theorem dX8_mixPosition_69 : decode cX8_mixPosition 69 = .ok (.lstore_n 3, 1) := by decide +kernel
theorem dX8_mixPosition_70 : decode cX8_mixPosition 70 = .ok (.lload_n 3, 1) := by decide +kernel
theorem dX8_mixPosition_71 : decode cX8_mixPosition 71 = .ok (.aload_n 0, 1) := by decide +kernel
theorem dX8_mixPosition_72 : decode cX8_mixPosition 72 = .ok (.invokevirtual 365, 3) := by decide +kernel
theorem dX8_mixPosition_75 : decode cX8_mixPosition 75 = .ok (.i2l, 1) := by decide +kernel
theorem dX8_mixPosition_76 : decode cX8_mixPosition 76 = .ok (.invokestatic 306, 3) := by decide +kernel
theorem dX8_mixPosition_79 : decode cX8_mixPosition 79 = .ok (.lstore_n 3, 1) := by decide +kernel
theorem dX8_mixPosition_80 : decode cX8_mixPosition 80 = .ok (.lload_n 3, 1) := by decide +kernel
theorem dX8_mixPosition_81 : decode cX8_mixPosition 81 = .ok (.aload_n 0, 1) := by decide +kernel
theorem dX8_mixPosition_82 : decode cX8_mixPosition 82 = .ok (.invokevirtual 368, 3) := by decide +kernel
theorem dX8_mixPosition_85 : decode cX8_mixPosition 85 = .ok (.i2l, 1) := by decide +kernel
theorem dX8_mixPosition_86 : decode cX8_mixPosition 86 = .ok (.invokestatic 306, 3) := by decide +kernel
theorem dX8_mixPosition_89 : decode cX8_mixPosition 89 = .ok (.lstore_n 3, 1) := by decide +kernel
theorem dX8_mixPosition_90 : decode cX8_mixPosition 90 = .ok (.lload_n 3, 1) := by decide +kernel
theorem dX8_mixPosition_91 : decode cX8_mixPosition 91 = .ok (.aload_n 0, 1) := by decide +kernel
theorem dX8_mixPosition_92 : decode cX8_mixPosition 92 = .ok (.invokevirtual 371, 3) := by decide +kernel
theorem dX8_mixPosition_95 : decode cX8_mixPosition 95 = .ok (.i2l, 1) := by decide +kernel
theorem dX8_mixPosition_96 : decode cX8_mixPosition 96 = .ok (.invokestatic 306, 3) := by decide +kernel
theorem dX8_mixPosition_99 : decode cX8_mixPosition 99 = .ok (.lreturn, 1) := by decide +kernel
theorem dX8_mixItems_0 : decode cX8_mixItems 0 = .ok (.lload_n 1, 1) := by decide +kernel
theorem dX8_mixItems_1 : decode cX8_mixItems 1 = .ok (.lstore_n 3, 1) := by decide +kernel
theorem dX8_mixItems_2 : decode cX8_mixItems 2 = .ok (.iconst 0, 1) := by decide +kernel
theorem dX8_mixItems_3 : decode cX8_mixItems 3 = .ok (.istore 5, 2) := by decide +kernel
theorem dX8_mixItems_5 : decode cX8_mixItems 5 = .ok (.iload 5, 2) := by decide +kernel
theorem dX8_mixItems_7 : decode cX8_mixItems 7 = .ok (.aload_n 0, 1) := by decide +kernel
theorem dX8_mixItems_8 : decode cX8_mixItems 8 = .ok (.getfield 10, 3) := by decide +kernel
theorem dX8_mixItems_11 : decode cX8_mixItems 11 = .ok (.getfield 107, 3) := by decide +kernel
theorem dX8_mixItems_14 : decode cX8_mixItems 14 = .ok (.if_icmp .ge 79, 3) := by decide +kernel
theorem dX8_mixItems_17 : decode cX8_mixItems 17 = .ok (.aload_n 0, 1) := by decide +kernel
theorem dX8_mixItems_18 : decode cX8_mixItems 18 = .ok (.getfield 10, 3) := by decide +kernel
theorem dX8_mixItems_21 : decode cX8_mixItems 21 = .ok (.iload 5, 2) := by decide +kernel
theorem dX8_mixItems_23 : decode cX8_mixItems 23 = .ok (.invokevirtual 251, 3) := by decide +kernel
theorem dX8_mixItems_26 : decode cX8_mixItems 26 = .ok (.astore 6, 2) := by decide +kernel
theorem dX8_mixItems_28 : decode cX8_mixItems 28 = .ok (.aload 6, 2) := by decide +kernel
theorem dX8_mixItems_30 : decode cX8_mixItems 30 = .ok (.ifnull 57, 3) := by decide +kernel
theorem dX8_mixItems_33 : decode cX8_mixItems 33 = .ok (.lload_n 3, 1) := by decide +kernel
theorem dX8_mixItems_34 : decode cX8_mixItems 34 = .ok (.aload 6, 2) := by decide +kernel
theorem dX8_mixItems_36 : decode cX8_mixItems 36 = .ok (.getfield 110, 3) := by decide +kernel
theorem dX8_mixItems_39 : decode cX8_mixItems 39 = .ok (.i2l, 1) := by decide +kernel
theorem dX8_mixItems_40 : decode cX8_mixItems 40 = .ok (.invokestatic 306, 3) := by decide +kernel
theorem dX8_mixItems_43 : decode cX8_mixItems 43 = .ok (.lstore_n 3, 1) := by decide +kernel
theorem dX8_mixItems_44 : decode cX8_mixItems 44 = .ok (.lload_n 3, 1) := by decide +kernel
theorem dX8_mixItems_45 : decode cX8_mixItems 45 = .ok (.aload 6, 2) := by decide +kernel
theorem dX8_mixItems_47 : decode cX8_mixItems 47 = .ok (.getfield 89, 3) := by decide +kernel
theorem dX8_mixItems_50 : decode cX8_mixItems 50 = .ok (.invokestatic 113, 3) := by decide +kernel
theorem dX8_mixItems_53 : decode cX8_mixItems 53 = .ok (.i2l, 1) := by decide +kernel
theorem dX8_mixItems_54 : decode cX8_mixItems 54 = .ok (.invokestatic 306, 3) := by decide +kernel
theorem dX8_mixItems_57 : decode cX8_mixItems 57 = .ok (.lstore_n 3, 1) := by decide +kernel
theorem dX8_mixItems_58 : decode cX8_mixItems 58 = .ok (.lload_n 3, 1) := by decide +kernel
theorem dX8_mixItems_59 : decode cX8_mixItems 59 = .ok (.aload 6, 2) := by decide +kernel
theorem dX8_mixItems_61 : decode cX8_mixItems 61 = .ok (.invokevirtual 122, 3) := by decide +kernel
theorem dX8_mixItems_64 : decode cX8_mixItems 64 = .ok (.ifCond .eq 7, 3) := by decide +kernel
theorem dX8_mixItems_67 : decode cX8_mixItems 67 = .ok (.lconst 1, 1) := by decide +kernel
theorem dX8_mixItems_68 : decode cX8_mixItems 68 = .ok (.goto 4, 3) := by decide +kernel
theorem dX8_mixItems_71 : decode cX8_mixItems 71 = .ok (.lconst 0, 1) := by decide +kernel
theorem dX8_mixItems_72 : decode cX8_mixItems 72 = .ok (.invokestatic 306, 3) := by decide +kernel
theorem dX8_mixItems_75 : decode cX8_mixItems 75 = .ok (.lstore_n 3, 1) := by decide +kernel
theorem dX8_mixItems_76 : decode cX8_mixItems 76 = .ok (.lload_n 3, 1) := by decide +kernel
theorem dX8_mixItems_77 : decode cX8_mixItems 77 = .ok (.aload 6, 2) := by decide +kernel
theorem dX8_mixItems_79 : decode cX8_mixItems 79 = .ok (.getfield 119, 3) := by decide +kernel
theorem dX8_mixItems_82 : decode cX8_mixItems 82 = .ok (.i2l, 1) := by decide +kernel
theorem dX8_mixItems_83 : decode cX8_mixItems 83 = .ok (.invokestatic 306, 3) := by decide +kernel
theorem dX8_mixItems_86 : decode cX8_mixItems 86 = .ok (.lstore_n 3, 1) := by decide +kernel
theorem dX8_mixItems_87 : decode cX8_mixItems 87 = .ok (.iinc 5 1, 3) := by decide +kernel
theorem dX8_mixItems_90 : decode cX8_mixItems 90 = .ok (.goto (-85), 3) := by decide +kernel
theorem dX8_mixItems_93 : decode cX8_mixItems 93 = .ok (.lload_n 3, 1) := by decide +kernel
theorem dX8_mixItems_94 : decode cX8_mixItems 94 = .ok (.lreturn, 1) := by decide +kernel
theorem dX8_mixScreen_0 : decode cX8_mixScreen 0 = .ok (.lload_n 1, 1) := by decide +kernel
theorem dX8_mixScreen_1 : decode cX8_mixScreen 1 = .ok (.lstore_n 3, 1) := by decide +kernel
theorem dX8_mixScreen_2 : decode cX8_mixScreen 2 = .ok (.iconst 0, 1) := by decide +kernel
theorem dX8_mixScreen_3 : decode cX8_mixScreen 3 = .ok (.istore 5, 2) := by decide +kernel
theorem dX8_mixScreen_5 : decode cX8_mixScreen 5 = .ok (.iload 5, 2) := by decide +kernel
theorem dX8_mixScreen_7 : decode cX8_mixScreen 7 = .ok (.iconst 2, 1) := by decide +kernel
theorem dX8_mixScreen_8 : decode cX8_mixScreen 8 = .ok (.if_icmp .ge 42, 3) := by decide +kernel
theorem dX8_mixScreen_11 : decode cX8_mixScreen 11 = .ok (.iconst 0, 1) := by decide +kernel
theorem dX8_mixScreen_12 : decode cX8_mixScreen 12 = .ok (.istore 6, 2) := by decide +kernel
theorem dX8_mixScreen_14 : decode cX8_mixScreen 14 = .ok (.iload 6, 2) := by decide +kernel
theorem dX8_mixScreen_16 : decode cX8_mixScreen 16 = .ok (.bipush 16, 2) := by decide +kernel
theorem dX8_mixScreen_18 : decode cX8_mixScreen 18 = .ok (.if_icmp .ge 26, 3) := by decide +kernel
theorem dX8_mixScreen_21 : decode cX8_mixScreen 21 = .ok (.lload_n 3, 1) := by decide +kernel
theorem dX8_mixScreen_22 : decode cX8_mixScreen 22 = .ok (.aload_n 0, 1) := by decide +kernel
theorem dX8_mixScreen_23 : decode cX8_mixScreen 23 = .ok (.getfield 45, 3) := by decide +kernel
theorem dX8_mixScreen_26 : decode cX8_mixScreen 26 = .ok (.iload 5, 2) := by decide +kernel
theorem dX8_mixScreen_28 : decode cX8_mixScreen 28 = .ok (.iload 6, 2) := by decide +kernel
theorem dX8_mixScreen_30 : decode cX8_mixScreen 30 = .ok (.invokevirtual 233, 3) := by decide +kernel
theorem dX8_mixScreen_33 : decode cX8_mixScreen 33 = .ok (.i2l, 1) := by decide +kernel
theorem dX8_mixScreen_34 : decode cX8_mixScreen 34 = .ok (.invokestatic 306, 3) := by decide +kernel
theorem dX8_mixScreen_37 : decode cX8_mixScreen 37 = .ok (.lstore_n 3, 1) := by decide +kernel
theorem dX8_mixScreen_38 : decode cX8_mixScreen 38 = .ok (.iinc 6 1, 3) := by decide +kernel
theorem dX8_mixScreen_41 : decode cX8_mixScreen 41 = .ok (.goto (-27), 3) := by decide +kernel
theorem dX8_mixScreen_44 : decode cX8_mixScreen 44 = .ok (.iinc 5 1, 3) := by decide +kernel
theorem dX8_mixScreen_47 : decode cX8_mixScreen 47 = .ok (.goto (-42), 3) := by decide +kernel
theorem dX8_mixScreen_50 : decode cX8_mixScreen 50 = .ok (.lload_n 3, 1) := by decide +kernel
theorem dX8_mixScreen_51 : decode cX8_mixScreen 51 = .ok (.lreturn, 1) := by decide +kernel
theorem dX8_floatBits_0 : decode cX8_floatBits 0 = .ok (.fload_n 0, 1) := by decide +kernel
theorem dX8_floatBits_1 : decode cX8_floatBits 1 = .ok (.fconst 0, 1) := by decide +kernel
theorem dX8_floatBits_2 : decode cX8_floatBits 2 = .ok (.fcmp .g, 1) := by decide +kernel
theorem dX8_floatBits_3 : decode cX8_floatBits 3 = .ok (.ifCond .gt 5, 3) := by decide +kernel
theorem dX8_floatBits_6 : decode cX8_floatBits 6 = .ok (.iconst 0, 1) := by decide +kernel
theorem dX8_floatBits_7 : decode cX8_floatBits 7 = .ok (.ireturn, 1) := by decide +kernel
theorem dX8_floatBits_8 : decode cX8_floatBits 8 = .ok (.fload_n 0, 1) := by decide +kernel
theorem dX8_floatBits_9 : decode cX8_floatBits 9 = .ok (.fstore_n 1, 1) := by decide +kernel
theorem dX8_floatBits_10 : decode cX8_floatBits 10 = .ok (.bipush 127, 2) := by decide +kernel
theorem dX8_floatBits_12 : decode cX8_floatBits 12 = .ok (.istore_n 2, 1) := by decide +kernel
theorem dX8_floatBits_13 : decode cX8_floatBits 13 = .ok (.fload_n 1, 1) := by decide +kernel
theorem dX8_floatBits_14 : decode cX8_floatBits 14 = .ok (.fconst 1, 1) := by decide +kernel
theorem dX8_floatBits_15 : decode cX8_floatBits 15 = .ok (.fcmp .g, 1) := by decide +kernel
theorem dX8_floatBits_16 : decode cX8_floatBits 16 = .ok (.ifCond .ge 18, 3) := by decide +kernel
theorem dX8_floatBits_19 : decode cX8_floatBits 19 = .ok (.iload_n 2, 1) := by decide +kernel
theorem dX8_floatBits_20 : decode cX8_floatBits 20 = .ok (.iconst 1, 1) := by decide +kernel
theorem dX8_floatBits_21 : decode cX8_floatBits 21 = .ok (.if_icmp .le 13, 3) := by decide +kernel
theorem dX8_floatBits_24 : decode cX8_floatBits 24 = .ok (.fload_n 1, 1) := by decide +kernel
theorem dX8_floatBits_25 : decode cX8_floatBits 25 = .ok (.fconst 2, 1) := by decide +kernel
theorem dX8_floatBits_26 : decode cX8_floatBits 26 = .ok (.fmul, 1) := by decide +kernel
theorem dX8_floatBits_27 : decode cX8_floatBits 27 = .ok (.fstore_n 1, 1) := by decide +kernel
theorem dX8_floatBits_28 : decode cX8_floatBits 28 = .ok (.iinc 2 (-1), 3) := by decide +kernel
theorem dX8_floatBits_31 : decode cX8_floatBits 31 = .ok (.goto (-18), 3) := by decide +kernel
theorem dX8_floatBits_34 : decode cX8_floatBits 34 = .ok (.iload_n 2, 1) := by decide +kernel
theorem dX8_floatBits_35 : decode cX8_floatBits 35 = .ok (.bipush 23, 2) := by decide +kernel
theorem dX8_floatBits_37 : decode cX8_floatBits 37 = .ok (.ishl, 1) := by decide +kernel
theorem dX8_floatBits_38 : decode cX8_floatBits 38 = .ok (.fload_n 1, 1) := by decide +kernel
theorem dX8_floatBits_39 : decode cX8_floatBits 39 = .ok (.fconst 1, 1) := by decide +kernel
theorem dX8_floatBits_40 : decode cX8_floatBits 40 = .ok (.fsub, 1) := by decide +kernel
theorem dX8_floatBits_41 : decode cX8_floatBits 41 = .ok (.ldc_w 374, 3) := by decide +kernel
theorem dX8_floatBits_44 : decode cX8_floatBits 44 = .ok (.fmul, 1) := by decide +kernel
theorem dX8_floatBits_45 : decode cX8_floatBits 45 = .ok (.f2i, 1) := by decide +kernel
theorem dX8_floatBits_46 : decode cX8_floatBits 46 = .ok (.iadd, 1) := by decide +kernel
theorem dX8_floatBits_47 : decode cX8_floatBits 47 = .ok (.ireturn, 1) := by decide +kernel
