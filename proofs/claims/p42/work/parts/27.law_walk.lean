theorem wk_L_8 : Cond.constant RL 8 (2147483647 : Int32) ∈ BIG := big_of 347 (by decide +kernel) (by decide +kernel)
theorem wk_L_9 : Cond.constantLong RL 9 (43 : Int64) ∈ BIG := big_of 804 (by decide +kernel) (by decide +kernel)
theorem ml_L_11 : Cond.methodLink RL 11 yX8_items ∈ BIG := big_of 312 (by decide +kernel) (by decide +kernel)
theorem wk_L_17 : Cond.constantLong RL 17 (1009 : Int64) ∈ BIG := big_of 805 (by decide +kernel) (by decide +kernel)
theorem wc_X8_kind : Cond.code yX8_kind cX8_kind 2 (some .int) ∈ BIG := big_of 354 (by decide +kernel) (by decide +kernel)
theorem wn_X8_kind : Cond.instanceMethod yX8_kind ∈ BIG := big_of 352 (by decide +kernel) (by decide +kernel)
theorem ws_X8_kind : Cond.selects RX8 yX8_kind yX8_kind ∈ BIG := big_of 353 (by decide +kernel) (by decide +kernel)
theorem ml_L_19 : Cond.methodLink RL 19 yX8_kind ∈ BIG := big_of 351 (by decide +kernel) (by decide +kernel)
theorem wc_X8_value : Cond.code yX8_value cX8_value 3 (some .int) ∈ BIG := big_of 771 (by decide +kernel) (by decide +kernel)
theorem wn_X8_value : Cond.instanceMethod yX8_value ∈ BIG := big_of 769 (by decide +kernel) (by decide +kernel)
theorem ws_X8_value : Cond.selects RX8 yX8_value yX8_value ∈ BIG := big_of 770 (by decide +kernel) (by decide +kernel)
theorem ml_L_23 : Cond.methodLink RL 23 yX8_value ∈ BIG := big_of 768 (by decide +kernel) (by decide +kernel)
theorem wc_X8_pressesTo : Cond.code yX8_pressesTo cX8_pressesTo 2 (some .int) ∈ BIG := big_of 431 (by decide +kernel) (by decide +kernel)
theorem wn_X8_pressesTo : Cond.instanceMethod yX8_pressesTo ∈ BIG := big_of 429 (by decide +kernel) (by decide +kernel)
theorem ws_X8_pressesTo : Cond.selects RX8 yX8_pressesTo yX8_pressesTo ∈ BIG := big_of 430 (by decide +kernel) (by decide +kernel)
theorem ml_L_26 : Cond.methodLink RL 26 yX8_pressesTo ∈ BIG := big_of 428 (by decide +kernel) (by decide +kernel)
theorem wc_L_up : Cond.code yL_up cL_up 2 (some .int) ∈ BIG := big_of 346 (by decide +kernel) (by decide +kernel)
theorem wt_L_up : Cond.static yL_up ∈ BIG := big_of 345 (by decide +kernel) (by decide +kernel)
theorem wi_L : Cond.initialized RL ∈ BIG := big_of 33 (by decide +kernel) (by decide +kernel)
theorem ml_L_29 : Cond.methodLink RL 29 yL_up ∈ BIG := big_of 344 (by decide +kernel) (by decide +kernel)
theorem wc_X8_addChoice : Cond.code yX8_addChoice cX8_addChoice 4 (some .int) ∈ BIG := big_of 506 (by decide +kernel) (by decide +kernel)
theorem wn_X8_addChoice : Cond.instanceMethod yX8_addChoice ∈ BIG := big_of 504 (by decide +kernel) (by decide +kernel)
theorem ws_X8_addChoice : Cond.selects RX8 yX8_addChoice yX8_addChoice ∈ BIG := big_of 505 (by decide +kernel) (by decide +kernel)
theorem ml_L_45 : Cond.methodLink RL 45 yX8_addChoice ∈ BIG := big_of 503 (by decide +kernel) (by decide +kernel)
theorem wc_X8_addNumber : Cond.code yX8_addNumber cX8_addNumber 6 (some .int) ∈ BIG := big_of 500 (by decide +kernel) (by decide +kernel)
theorem wn_X8_addNumber : Cond.instanceMethod yX8_addNumber ∈ BIG := big_of 498 (by decide +kernel) (by decide +kernel)
theorem ws_X8_addNumber : Cond.selects RX8 yX8_addNumber yX8_addNumber ∈ BIG := big_of 499 (by decide +kernel) (by decide +kernel)
theorem ml_L_41 : Cond.methodLink RL 41 yX8_addNumber ∈ BIG := big_of 497 (by decide +kernel) (by decide +kernel)
theorem wc_X8_addMenu : Cond.code yX8_addMenu cX8_addMenu 3 (some .int) ∈ BIG := big_of 442 (by decide +kernel) (by decide +kernel)
theorem wn_X8_addMenu : Cond.instanceMethod yX8_addMenu ∈ BIG := big_of 440 (by decide +kernel) (by decide +kernel)
theorem ws_X8_addMenu : Cond.selects RX8 yX8_addMenu yX8_addMenu ∈ BIG := big_of 441 (by decide +kernel) (by decide +kernel)
theorem ml_L_38 : Cond.methodLink RL 38 yX8_addMenu ∈ BIG := big_of 439 (by decide +kernel) (by decide +kernel)
theorem wc_X8_menuOf : Cond.code yX8_menuOf cX8_menuOf 2 (some .int) ∈ BIG := big_of 435 (by decide +kernel) (by decide +kernel)
theorem wn_X8_menuOf : Cond.instanceMethod yX8_menuOf ∈ BIG := big_of 433 (by decide +kernel) (by decide +kernel)
theorem ws_X8_menuOf : Cond.selects RX8 yX8_menuOf yX8_menuOf ∈ BIG := big_of 434 (by decide +kernel) (by decide +kernel)
theorem ml_L_35 : Cond.methodLink RL 35 yX8_menuOf ∈ BIG := big_of 432 (by decide +kernel) (by decide +kernel)
theorem wc_X8_lock : Cond.code yX8_lock cX8_lock 5 (some .int) ∈ BIG := big_of 511 (by decide +kernel) (by decide +kernel)
theorem wn_X8_lock : Cond.instanceMethod yX8_lock ∈ BIG := big_of 509 (by decide +kernel) (by decide +kernel)
theorem ws_X8_lock : Cond.selects RX8 yX8_lock yX8_lock ∈ BIG := big_of 510 (by decide +kernel) (by decide +kernel)
theorem ml_L_48 : Cond.methodLink RL 48 yX8_lock ∈ BIG := big_of 508 (by decide +kernel) (by decide +kernel)
theorem wc_X8_digest : Cond.code yX8_digest cX8_digest 4 (some .long) ∈ BIG := big_of 520 (by decide +kernel) (by decide +kernel)
theorem wn_X8_digest : Cond.instanceMethod yX8_digest ∈ BIG := big_of 518 (by decide +kernel) (by decide +kernel)
theorem ws_X8_digest : Cond.selects RX8 yX8_digest yX8_digest ∈ BIG := big_of 519 (by decide +kernel) (by decide +kernel)
theorem ml_L_51 : Cond.methodLink RL 51 yX8_digest ∈ BIG := big_of 517 (by decide +kernel) (by decide +kernel)
theorem ml_L_55 : Cond.methodLink RL 55 yX8_logged ∈ BIG := big_of 734 (by decide +kernel) (by decide +kernel)
theorem ml_L_58 : Cond.methodLink RL 58 yX8_barred ∈ BIG := big_of 735 (by decide +kernel) (by decide +kernel)
theorem ml_L_61 : Cond.methodLink RL 61 yX8_mode ∈ BIG := big_of 736 (by decide +kernel) (by decide +kernel)
theorem ml_L_64 : Cond.methodLink RL 64 yX8_draft ∈ BIG := big_of 737 (by decide +kernel) (by decide +kernel)
theorem ml_L_67 : Cond.methodLink RL 67 yX8_fraction ∈ BIG := big_of 738 (by decide +kernel) (by decide +kernel)
theorem wc_X8_isHome : Cond.code yX8_isHome cX8_isHome 1 (some .boolean) ∈ BIG := big_of 319 (by decide +kernel) (by decide +kernel)
theorem wn_X8_isHome : Cond.instanceMethod yX8_isHome ∈ BIG := big_of 317 (by decide +kernel) (by decide +kernel)
theorem ws_X8_isHome : Cond.selects RX8 yX8_isHome yX8_isHome ∈ BIG := big_of 318 (by decide +kernel) (by decide +kernel)
theorem ml_L_71 : Cond.methodLink RL 71 yX8_isHome ∈ BIG := big_of 316 (by decide +kernel) (by decide +kernel)
theorem ml_L_75 : Cond.methodLink RL 75 yX8_shown ∈ BIG := big_of 739 (by decide +kernel) (by decide +kernel)
theorem ml_L_78 : Cond.methodLink RL 78 yX8_cursor ∈ BIG := big_of 740 (by decide +kernel) (by decide +kernel)
theorem ml_L_81 : Cond.methodLink RL 81 yX8_ticksToHome ∈ BIG := big_of 741 (by decide +kernel) (by decide +kernel)
theorem wc_X8_display : Cond.code yX8_display cX8_display 3 (some .int) ∈ BIG := big_of 745 (by decide +kernel) (by decide +kernel)
theorem wn_X8_display : Cond.instanceMethod yX8_display ∈ BIG := big_of 743 (by decide +kernel) (by decide +kernel)
theorem ws_X8_display : Cond.selects RX8 yX8_display yX8_display ∈ BIG := big_of 744 (by decide +kernel) (by decide +kernel)
theorem ml_L_84 : Cond.methodLink RL 84 yX8_display ∈ BIG := big_of 742 (by decide +kernel) (by decide +kernel)
theorem wc_X8_ifTurned : Cond.code yX8_ifTurned cX8_ifTurned 2 (some .int) ∈ BIG := big_of 776 (by decide +kernel) (by decide +kernel)
theorem wn_X8_ifTurned : Cond.instanceMethod yX8_ifTurned ∈ BIG := big_of 774 (by decide +kernel) (by decide +kernel)
theorem ws_X8_ifTurned : Cond.selects RX8 yX8_ifTurned yX8_ifTurned ∈ BIG := big_of 775 (by decide +kernel) (by decide +kernel)
theorem ml_L_97 : Cond.methodLink RL 97 yX8_ifTurned ∈ BIG := big_of 773 (by decide +kernel) (by decide +kernel)
theorem wc_X8_detentsTo : Cond.code yX8_detentsTo cX8_detentsTo 2 (some .int) ∈ BIG := big_of 750 (by decide +kernel) (by decide +kernel)
theorem wn_X8_detentsTo : Cond.instanceMethod yX8_detentsTo ∈ BIG := big_of 748 (by decide +kernel) (by decide +kernel)
theorem ws_X8_detentsTo : Cond.selects RX8 yX8_detentsTo yX8_detentsTo ∈ BIG := big_of 749 (by decide +kernel) (by decide +kernel)
theorem ml_L_87 : Cond.methodLink RL 87 yX8_detentsTo ∈ BIG := big_of 747 (by decide +kernel) (by decide +kernel)
theorem wc_X8_codesTo : Cond.code yX8_codesTo cX8_codesTo 4 (some .int) ∈ BIG := big_of 763 (by decide +kernel) (by decide +kernel)
theorem wn_X8_codesTo : Cond.instanceMethod yX8_codesTo ∈ BIG := big_of 761 (by decide +kernel) (by decide +kernel)
theorem ws_X8_codesTo : Cond.selects RX8 yX8_codesTo yX8_codesTo ∈ BIG := big_of 762 (by decide +kernel) (by decide +kernel)
theorem ml_L_90 : Cond.methodLink RL 90 yX8_codesTo ∈ BIG := big_of 760 (by decide +kernel) (by decide +kernel)
theorem wc_X8_isClosed : Cond.code yX8_isClosed cX8_isClosed 2 (some .boolean) ∈ BIG := big_of 767 (by decide +kernel) (by decide +kernel)
theorem wn_X8_isClosed : Cond.instanceMethod yX8_isClosed ∈ BIG := big_of 765 (by decide +kernel) (by decide +kernel)
theorem ws_X8_isClosed : Cond.selects RX8 yX8_isClosed yX8_isClosed ∈ BIG := big_of 766 (by decide +kernel) (by decide +kernel)
theorem ml_L_93 : Cond.methodLink RL 93 yX8_isClosed ∈ BIG := big_of 764 (by decide +kernel) (by decide +kernel)
theorem wc_L_values : Cond.code yL_values cL_values 4 (some .long) ∈ BIG := big_of 803 (by decide +kernel) (by decide +kernel)
theorem wt_L_values : Cond.static yL_values ∈ BIG := big_of 802 (by decide +kernel) (by decide +kernel)
theorem ml_L_100 : Cond.methodLink RL 100 yL_values ∈ BIG := big_of 801 (by decide +kernel) (by decide +kernel)
theorem wc_X8_events : Cond.code yX8_events cX8_events 2 (some .int) ∈ BIG := big_of 809 (by decide +kernel) (by decide +kernel)
theorem wn_X8_events : Cond.instanceMethod yX8_events ∈ BIG := big_of 807 (by decide +kernel) (by decide +kernel)
theorem ws_X8_events : Cond.selects RX8 yX8_events yX8_events ∈ BIG := big_of 808 (by decide +kernel) (by decide +kernel)
theorem ml_L_104 : Cond.methodLink RL 104 yX8_events ∈ BIG := big_of 806 (by decide +kernel) (by decide +kernel)
theorem wc_X8_set : Cond.code yX8_set cX8_set 4 (some .int) ∈ BIG := big_of 814 (by decide +kernel) (by decide +kernel)
theorem wn_X8_set : Cond.instanceMethod yX8_set ∈ BIG := big_of 812 (by decide +kernel) (by decide +kernel)
theorem ws_X8_set : Cond.selects RX8 yX8_set yX8_set ∈ BIG := big_of 813 (by decide +kernel) (by decide +kernel)
theorem ml_L_107 : Cond.methodLink RL 107 yX8_set ∈ BIG := big_of 811 (by decide +kernel) (by decide +kernel)
theorem wc_X8_hold : Cond.code yX8_hold cX8_hold 1 (some .int) ∈ BIG := big_of 831 (by decide +kernel) (by decide +kernel)
theorem wn_X8_hold : Cond.instanceMethod yX8_hold ∈ BIG := big_of 829 (by decide +kernel) (by decide +kernel)
theorem ws_X8_hold : Cond.selects RX8 yX8_hold yX8_hold ∈ BIG := big_of 830 (by decide +kernel) (by decide +kernel)
theorem ml_L_110 : Cond.methodLink RL 110 yX8_hold ∈ BIG := big_of 828 (by decide +kernel) (by decide +kernel)
theorem wc_X8_takeBack : Cond.code yX8_takeBack cX8_takeBack 2 (some .int) ∈ BIG := big_of 892 (by decide +kernel) (by decide +kernel)
theorem wn_X8_takeBack : Cond.instanceMethod yX8_takeBack ∈ BIG := big_of 890 (by decide +kernel) (by decide +kernel)
theorem ws_X8_takeBack : Cond.selects RX8 yX8_takeBack yX8_takeBack ∈ BIG := big_of 891 (by decide +kernel) (by decide +kernel)
theorem ml_L_125 : Cond.methodLink RL 125 yX8_takeBack ∈ BIG := big_of 889 (by decide +kernel) (by decide +kernel)
theorem wc_X8_savePreset : Cond.code yX8_savePreset cX8_savePreset 2 (some .int) ∈ BIG := big_of 865 (by decide +kernel) (by decide +kernel)
theorem wn_X8_savePreset : Cond.instanceMethod yX8_savePreset ∈ BIG := big_of 863 (by decide +kernel) (by decide +kernel)
theorem ws_X8_savePreset : Cond.selects RX8 yX8_savePreset yX8_savePreset ∈ BIG := big_of 864 (by decide +kernel) (by decide +kernel)
theorem ml_L_119 : Cond.methodLink RL 119 yX8_savePreset ∈ BIG := big_of 862 (by decide +kernel) (by decide +kernel)
theorem wc_X8_loadPreset : Cond.code yX8_loadPreset cX8_loadPreset 3 (some .int) ∈ BIG := big_of 879 (by decide +kernel) (by decide +kernel)
theorem wn_X8_loadPreset : Cond.instanceMethod yX8_loadPreset ∈ BIG := big_of 877 (by decide +kernel) (by decide +kernel)
theorem ws_X8_loadPreset : Cond.selects RX8 yX8_loadPreset yX8_loadPreset ∈ BIG := big_of 878 (by decide +kernel) (by decide +kernel)
theorem ml_L_122 : Cond.methodLink RL 122 yX8_loadPreset ∈ BIG := big_of 876 (by decide +kernel) (by decide +kernel)
theorem wc_X8_press : Cond.code yX8_press cX8_press 1 (some .int) ∈ BIG := big_of 923 (by decide +kernel) (by decide +kernel)
theorem wn_X8_press : Cond.instanceMethod yX8_press ∈ BIG := big_of 921 (by decide +kernel) (by decide +kernel)
theorem ws_X8_press : Cond.selects RX8 yX8_press yX8_press ∈ BIG := big_of 922 (by decide +kernel) (by decide +kernel)
theorem ml_L_131 : Cond.methodLink RL 131 yX8_press ∈ BIG := big_of 920 (by decide +kernel) (by decide +kernel)
theorem ml_L_134 : Cond.methodLink RL 134 yX8_chosen ∈ BIG := big_of 966 (by decide +kernel) (by decide +kernel)
theorem wc_X8_turn : Cond.code yX8_turn cX8_turn 2 (some .int) ∈ BIG := big_of 910 (by decide +kernel) (by decide +kernel)
theorem wn_X8_turn : Cond.instanceMethod yX8_turn ∈ BIG := big_of 908 (by decide +kernel) (by decide +kernel)
theorem ws_X8_turn : Cond.selects RX8 yX8_turn yX8_turn ∈ BIG := big_of 909 (by decide +kernel) (by decide +kernel)
theorem ml_L_128 : Cond.methodLink RL 128 yX8_turn ∈ BIG := big_of 907 (by decide +kernel) (by decide +kernel)
theorem ml_L_113 : Cond.methodLink RL 113 yX8_idle ∈ BIG := big_of 844 (by decide +kernel) (by decide +kernel)
theorem wc_X8_tick : Cond.code yX8_tick cX8_tick 2 (some .int) ∈ BIG := big_of 848 (by decide +kernel) (by decide +kernel)
theorem wn_X8_tick : Cond.instanceMethod yX8_tick ∈ BIG := big_of 846 (by decide +kernel) (by decide +kernel)
theorem ws_X8_tick : Cond.selects RX8 yX8_tick yX8_tick ∈ BIG := big_of 847 (by decide +kernel) (by decide +kernel)
theorem ml_L_116 : Cond.methodLink RL 116 yX8_tick ∈ BIG := big_of 845 (by decide +kernel) (by decide +kernel)
theorem cw_X8_kind : CWV yX8_kind cX8_kind 2 (some .int) RX8 1 := ⟨rfl, wc_X8_kind, wn_X8_kind, ws_X8_kind, wi_X8, by decide +kernel, by decide +kernel, by decide +kernel⟩
theorem cw_X8_value : CWV yX8_value cX8_value 3 (some .int) RX8 1 := ⟨rfl, wc_X8_value, wn_X8_value, ws_X8_value, wi_X8, by decide +kernel, by decide +kernel, by decide +kernel⟩
theorem cw_X8_pressesTo : CWV yX8_pressesTo cX8_pressesTo 2 (some .int) RX8 1 := ⟨rfl, wc_X8_pressesTo, wn_X8_pressesTo, ws_X8_pressesTo, wi_X8, by decide +kernel, by decide +kernel, by decide +kernel⟩
theorem cw_L_up : CWS yL_up cL_up 2 (some .int) 2 := ⟨wc_L_up, wt_L_up, wi_L, by decide +kernel, by decide +kernel, by decide +kernel⟩
theorem cw_X8_addChoice : CWV yX8_addChoice cX8_addChoice 4 (some .int) RX8 2 := ⟨rfl, wc_X8_addChoice, wn_X8_addChoice, ws_X8_addChoice, wi_X8, by decide +kernel, by decide +kernel, by decide +kernel⟩
theorem cw_X8_addNumber : CWV yX8_addNumber cX8_addNumber 6 (some .int) RX8 4 := ⟨rfl, wc_X8_addNumber, wn_X8_addNumber, ws_X8_addNumber, wi_X8, by decide +kernel, by decide +kernel, by decide +kernel⟩
theorem cw_X8_addMenu : CWV yX8_addMenu cX8_addMenu 3 (some .int) RX8 1 := ⟨rfl, wc_X8_addMenu, wn_X8_addMenu, ws_X8_addMenu, wi_X8, by decide +kernel, by decide +kernel, by decide +kernel⟩
theorem cw_X8_menuOf : CWV yX8_menuOf cX8_menuOf 2 (some .int) RX8 1 := ⟨rfl, wc_X8_menuOf, wn_X8_menuOf, ws_X8_menuOf, wi_X8, by decide +kernel, by decide +kernel, by decide +kernel⟩
theorem cw_X8_lock : CWV yX8_lock cX8_lock 5 (some .int) RX8 2 := ⟨rfl, wc_X8_lock, wn_X8_lock, ws_X8_lock, wi_X8, by decide +kernel, by decide +kernel, by decide +kernel⟩
theorem cw_X8_digest : CWV yX8_digest cX8_digest 4 (some .long) RX8 0 := ⟨rfl, wc_X8_digest, wn_X8_digest, ws_X8_digest, wi_X8, by decide +kernel, by decide +kernel, by decide +kernel⟩
theorem cw_X8_isHome : CWV yX8_isHome cX8_isHome 1 (some .boolean) RX8 0 := ⟨rfl, wc_X8_isHome, wn_X8_isHome, ws_X8_isHome, wi_X8, by decide +kernel, by decide +kernel, by decide +kernel⟩
theorem cw_X8_display : CWV yX8_display cX8_display 3 (some .int) RX8 2 := ⟨rfl, wc_X8_display, wn_X8_display, ws_X8_display, wi_X8, by decide +kernel, by decide +kernel, by decide +kernel⟩
theorem cw_X8_ifTurned : CWV yX8_ifTurned cX8_ifTurned 2 (some .int) RX8 1 := ⟨rfl, wc_X8_ifTurned, wn_X8_ifTurned, ws_X8_ifTurned, wi_X8, by decide +kernel, by decide +kernel, by decide +kernel⟩
theorem cw_X8_detentsTo : CWV yX8_detentsTo cX8_detentsTo 2 (some .int) RX8 1 := ⟨rfl, wc_X8_detentsTo, wn_X8_detentsTo, ws_X8_detentsTo, wi_X8, by decide +kernel, by decide +kernel, by decide +kernel⟩
theorem cw_X8_codesTo : CWV yX8_codesTo cX8_codesTo 4 (some .int) RX8 1 := ⟨rfl, wc_X8_codesTo, wn_X8_codesTo, ws_X8_codesTo, wi_X8, by decide +kernel, by decide +kernel, by decide +kernel⟩
theorem cw_X8_isClosed : CWV yX8_isClosed cX8_isClosed 2 (some .boolean) RX8 1 := ⟨rfl, wc_X8_isClosed, wn_X8_isClosed, ws_X8_isClosed, wi_X8, by decide +kernel, by decide +kernel, by decide +kernel⟩
theorem cw_L_values : CWS yL_values cL_values 4 (some .long) 1 := ⟨wc_L_values, wt_L_values, wi_L, by decide +kernel, by decide +kernel, by decide +kernel⟩
theorem cw_X8_events : CWV yX8_events cX8_events 2 (some .int) RX8 1 := ⟨rfl, wc_X8_events, wn_X8_events, ws_X8_events, wi_X8, by decide +kernel, by decide +kernel, by decide +kernel⟩
theorem cw_X8_set : CWV yX8_set cX8_set 4 (some .int) RX8 2 := ⟨rfl, wc_X8_set, wn_X8_set, ws_X8_set, wi_X8, by decide +kernel, by decide +kernel, by decide +kernel⟩
theorem cw_X8_hold : CWV yX8_hold cX8_hold 1 (some .int) RX8 0 := ⟨rfl, wc_X8_hold, wn_X8_hold, ws_X8_hold, wi_X8, by decide +kernel, by decide +kernel, by decide +kernel⟩
theorem cw_X8_takeBack : CWV yX8_takeBack cX8_takeBack 2 (some .int) RX8 0 := ⟨rfl, wc_X8_takeBack, wn_X8_takeBack, ws_X8_takeBack, wi_X8, by decide +kernel, by decide +kernel, by decide +kernel⟩
theorem cw_X8_savePreset : CWV yX8_savePreset cX8_savePreset 2 (some .int) RX8 1 := ⟨rfl, wc_X8_savePreset, wn_X8_savePreset, ws_X8_savePreset, wi_X8, by decide +kernel, by decide +kernel, by decide +kernel⟩
theorem cw_X8_loadPreset : CWV yX8_loadPreset cX8_loadPreset 3 (some .int) RX8 1 := ⟨rfl, wc_X8_loadPreset, wn_X8_loadPreset, ws_X8_loadPreset, wi_X8, by decide +kernel, by decide +kernel, by decide +kernel⟩
theorem cw_X8_press : CWV yX8_press cX8_press 1 (some .int) RX8 0 := ⟨rfl, wc_X8_press, wn_X8_press, ws_X8_press, wi_X8, by decide +kernel, by decide +kernel, by decide +kernel⟩
theorem cw_X8_turn : CWV yX8_turn cX8_turn 2 (some .int) RX8 1 := ⟨rfl, wc_X8_turn, wn_X8_turn, ws_X8_turn, wi_X8, by decide +kernel, by decide +kernel, by decide +kernel⟩
theorem cw_X8_tick : CWV yX8_tick cX8_tick 2 (some .int) RX8 1 := ⟨rfl, wc_X8_tick, wn_X8_tick, ws_X8_tick, wi_X8, by decide +kernel, by decide +kernel, by decide +kernel⟩
set_option maxRecDepth 100000 in
set_option maxHeartbeats 4000000 in
theorem k_L_up {l : Launch} {G : GT} {ad : Nat → Nat} {a : KS} {v0 : Int32} {v1 : Int32} {b : MS} {rr : Int32} (hf : f_L_up a v0 v1 = some rr) : MT l G yL_up cL_up 2 (some .int) (RM 0) [.int v0, .int v1] ad a b (some (.int rr)) a b := by
  refine MT_of (by decide) (Nat.le_of_ble_eq_true rfl) ?_
  intro p e s m args below meth c A C hr hk
  unfold f_L_up at hf
  refine j_iload_n C 0 rfl dL_up_0 ?_
  refine j_ldc C wk_L_8 dL_up_1 ?_
  refine j_iand C dL_up_3 ?_
  refine j_iload_n C 1 rfl dL_up_4 ?_
  obtain ⟨h1, hf⟩ := gd_some hf
  refine j_irem C (nz_ne h1) dL_up_5 ?_
  obtain rfl := Option.some.inj hf
  exact j_iret C hr hk ⟨Nat.le_of_ble_eq_true rfl, Nat.le_of_ble_eq_true rfl⟩ rfl dL_up_6
set_option maxRecDepth 100000 in
set_option maxHeartbeats 4000000 in
theorem w_L_values_36 {b : MS} {p : Program} {l : Launch} {e : Env} {s : State} {m : MethodId} {args : Array Value} {below : List Frame} {meth : Method} {c : Code} {G : GT} {A : Nat → Prop} {ad : Nat → Nat} (C : CX G A RL cL_values 4 p s m args c) (hr : meth.sig.returnType = (some .long)) (hk : meth.locks = false) {rr : Int64} (c6 : KS → Int64 → Int32 → Option Int64) (K6 : ∀ (a : KS) (v1 : Int64) (v3 : Int32), c6 a v1 v3 = some rr → J p l e (RM 3) s m args below meth c G A 4 (MQ below (QV (some (.long rr)) (PosW G ad a b A) A) args s 0 0 A) 0 0 ad a b 6 [(0, .ref (ad 0)), (1, .long v1), (3, .int v3)] []) (a : KS) (v3 : Int32) (s0 : Int64) (s1 : Int32) (hf : f_L_values_36 c6 a v3 s0 s1 = some rr) : J p l e (RM 3) s m args below meth c G A 4 (MQ below (QV (some (.long rr)) (PosW G ad a b A) A) args s 0 0 A) 0 0 ad a b 36 [(0, .ref (ad 0)), (3, .int v3)] [.int s1, .long s0] := by
  unfold f_L_values_36 at hf
  refine j_i2l C dL_values_36 ?_
  refine j_ladd C dL_values_37 ?_
  refine j_letJ hf (fun x1 hf => ?_)
  refine j_lstore_n (i := 1) (lv' := [(1, .long x1), (0, .ref (ad 0)), (3, .int v3)]) C dL_values_38 rfl (by decide) rfl ?_
  refine j_iinc (v := v3 + 1) (lv' := [(3, .int (v3 + 1)), (1, .long x1), (0, .ref (ad 0))]) C 2 rfl rfl (by decide) rfl dL_values_39 ?_
  refine j_goto C 6 dL_values_42 (by decide) ?_
  refine j_sub [2, 1, 0] rfl ?_
  exact K6 a x1 (v3 + 1) hf
set_option maxRecDepth 100000 in
set_option maxHeartbeats 4000000 in
theorem w_L_values_6 {b : MS} {p : Program} {l : Launch} {e : Env} {s : State} {m : MethodId} {args : Array Value} {below : List Frame} {meth : Method} {c : Code} {G : GT} {A : Nat → Prop} {ad : Nat → Nat} (C : CX G A RL cL_values 4 p s m args c) (hr : meth.sig.returnType = (some .long)) (hk : meth.locks = false) {rr : Int64} (c6 : KS → Int64 → Int32 → Option Int64) (K6 : ∀ (a : KS) (v1 : Int64) (v3 : Int32), c6 a v1 v3 = some rr → J p l e (RM 3) s m args below meth c G A 4 (MQ below (QV (some (.long rr)) (PosW G ad a b A) A) args s 0 0 A) 0 0 ad a b 6 [(0, .ref (ad 0)), (1, .long v1), (3, .int v3)] []) (a : KS) (v1 : Int64) (v3 : Int32) (hf : f_L_values_6 c6 a v1 v3 = some rr) : J p l e (RM 3) s m args below meth c G A 4 (MQ below (QV (some (.long rr)) (PosW G ad a b A) A) args s 0 0 A) 0 0 ad a b 6 [(0, .ref (ad 0)), (1, .long v1), (3, .int v3)] [] := by
  unfold f_L_values_6 at hf
  refine j_iload_n C 2 rfl dL_values_6 ?_
  refine j_aload_n C 0 rfl dL_values_7 ?_
  obtain ⟨z1, h2, hf⟩ := bnd_some hf
  refine j_callV (q := 0) (As := []) (rest := [.int v3]) C (k_X8_items h2) cw_X8_items ml_L_11 m_0 ce_0 rfl rfl ⟨Nat.le_of_ble_eq_true rfl, Nat.le_of_ble_eq_true rfl⟩ ⟨Nat.le_of_ble_eq_true rfl, Nat.le_of_ble_eq_true rfl⟩ rfl (Nat.le_of_ble_eq_true rfl) dL_values_8 ?_
  refine j_icmp_ge C 45 dL_values_11 (by decide) hf (fun y4 hf => ?_) (fun y4 hf => ?_)
  · refine j_lload_n C 1 rfl dL_values_45 ?_
    obtain rfl := Option.some.inj hf
    exact j_lret C hr hk ⟨Nat.le_of_ble_eq_true rfl, Nat.le_of_ble_eq_true rfl⟩ rfl dL_values_46
  · refine j_ldc2 C wk_L_17 dL_values_14 ?_
    refine j_lload_n C 1 rfl dL_values_17 ?_
    refine j_lmul C dL_values_18 ?_
    refine j_aload_n C 0 rfl dL_values_19 ?_
    refine j_iload_n C 2 rfl dL_values_20 ?_
    obtain ⟨z5, h6, hf⟩ := bnd_some hf
    obtain ⟨y7, hf⟩ := gd_some hf
    have y7 := of_decide_eq_true y7
    refine j_callV (q := 0) (As := [.int v3]) (rest := [.long (1009 * v1)]) C (k_X8_kind h6 y7) cw_X8_kind ml_L_19 m_0 ce_0 rfl rfl ⟨Nat.le_of_ble_eq_true rfl, Nat.le_of_ble_eq_true rfl⟩ ⟨Nat.le_of_ble_eq_true rfl, Nat.le_of_ble_eq_true rfl⟩ rfl (Nat.le_of_ble_eq_true rfl) dL_values_21 ?_
    refine j_if_ne C 31 dL_values_24 (by decide) hf (fun y8 hf => ?_) (fun y8 hf => ?_)
    · refine j_aload_n C 0 rfl dL_values_31 ?_
      refine j_iload_n C 2 rfl dL_values_32 ?_
      obtain ⟨z9, h10, hf⟩ := bnd_some hf
      obtain ⟨y11, hf⟩ := gd_some hf
      have y11 := of_decide_eq_true y11
      refine j_callV (q := 0) (As := [.int v3]) (rest := [.long (1009 * v1)]) C (k_X8_value h10 y11) cw_X8_value ml_L_23 m_0 ce_0 rfl rfl ⟨Nat.le_of_ble_eq_true rfl, Nat.le_of_ble_eq_true rfl⟩ ⟨Nat.le_of_ble_eq_true rfl, Nat.le_of_ble_eq_true rfl⟩ rfl (Nat.le_of_ble_eq_true rfl) dL_values_33 ?_
      refine j_sub [0, 2] rfl ?_
      exact w_L_values_36 C hr hk c6 K6 a v3 (1009 * v1) z9.2 hf
    · refine j_iconst (v := 0) C (by decide) dL_values_27 ?_
      refine j_goto C 36 dL_values_28 (by decide) ?_
      refine j_sub [0, 2] rfl ?_
      exact w_L_values_36 C hr hk c6 K6 a v3 (1009 * v1) 0 hf
theorem wl_L_values_6 {b : MS} {p : Program} {l : Launch} {e : Env} {s : State} {m : MethodId} {args : Array Value} {below : List Frame} {meth : Method} {c : Code} {G : GT} {A : Nat → Prop} {ad : Nat → Nat} (C : CX G A RL cL_values 4 p s m args c) (hr : meth.sig.returnType = (some .long)) (hk : meth.locks = false) {rr : Int64} (fuel : Nat)   : ∀ (a : KS) (v1 : Int64) (v3 : Int32), l_L_values_6 fuel  a v1 v3 = some rr → J p l e (RM 3) s m args below meth c G A 4 (MQ below (QV (some (.long rr)) (PosW G ad a b A) A) args s 0 0 A) 0 0 ad a b 6 [(0, .ref (ad 0)), (1, .long v1), (3, .int v3)] [] := by
  induction fuel with
  | zero => intro a v1 v3 hf; cases hf
  | succ n ih =>
    intro a v1 v3 hf
    have hf : f_L_values_6 (l_L_values_6 n ) a v1 v3 = some rr := hf
    exact w_L_values_6 C hr hk (l_L_values_6 n ) ih a v1 v3 hf
set_option maxRecDepth 100000 in
set_option maxHeartbeats 4000000 in
theorem k_L_values {l : Launch} {G : GT} {ad : Nat → Nat} {a : KS} {b : MS} {rr : Int64} (hf : f_L_values a = some rr) : MT l G yL_values cL_values 4 (some .long) (RM 3) [.ref (ad 0)] ad a b (some (.long rr)) a b := by
  refine MT_of (by decide) (Nat.le_of_ble_eq_true rfl) ?_
  intro p e s m args below meth c A C hr hk
  unfold f_L_values at hf
  refine j_ldc2 C wk_L_9 dL_values_0 ?_
  refine j_lstore_n (i := 1) (lv' := [(1, .long 43), (0, .ref (ad 0))]) C dL_values_3 rfl (by decide) rfl ?_
  refine j_iconst (v := 0) C (by decide) dL_values_4 ?_
  refine j_istore_n (i := 3) (lv' := [(3, .int 0), (1, .long 43), (0, .ref (ad 0))]) C dL_values_5 rfl (by decide) rfl ?_
  refine j_sub [2, 1, 0] rfl ?_
  exact wl_L_values_6 C hr hk FU a 43 0 hf
set_option maxRecDepth 100000 in
set_option maxHeartbeats 4000000 in
theorem w_L_adds_51 {b : MS} {p : Program} {l : Launch} {e : Env} {s : State} {m : MethodId} {args : Array Value} {below : List Frame} {meth : Method} {c : Code} {G : GT} {A : Nat → Prop} {ad : Nat → Nat} (C : CX G A RL cL_adds 6 p s m args c) (hr : meth.sig.returnType = (some .boolean)) (hk : meth.locks = false) {ad0 : Nat → Nat} {n0 : Nat} {rr : Int32 × KS} (c7 : KS → Int32 → Int32 → Int32 → Int32 → Option (Int32 × KS)) (K7 : ∀ (a : KS) (v1 : Int32) (v2 : Int32) (v3 : Int32) (v4 : Int32), AGK ad0 ad n0 (Kn a) → c7 a v1 v2 v3 v4 = some rr → J p l e (RX 7 2 21) s m args below meth c G A 6 (MQ below (QV (some (.int rr.1)) (PosA G ad0 n0 rr.2 b A) A) args s 2 21 A) 0 0 ad a b 7 [(0, .ref (ad 0)), (1, .int v1), (2, .int v2), (3, .int v3), (4, .int v4)] []) (a : KS) (v1 : Int32) (v3 : Int32) (v4 : Int32) (s0 : Int32) (hag0 : AGK ad0 ad n0 (Kn a)) (hf : f_L_adds_51 c7 a v1 v3 v4 s0 = some rr) : J p l e (RX 7 2 21) s m args below meth c G A 6 (MQ below (QV (some (.int rr.1)) (PosA G ad0 n0 rr.2 b A) A) args s 2 21 A) 0 0 ad a b 51 [(0, .ref (ad 0)), (1, .int v1), (3, .int v3), (4, .int v4)] [.int s0] := by
  unfold f_L_adds_51 at hf
  refine j_istore_n (i := 2) (lv' := [(2, .int s0), (0, .ref (ad 0)), (1, .int v1), (3, .int v3), (4, .int v4)]) C dL_adds_51 rfl (by decide) rfl ?_
  refine j_iinc (v := v4 + 1) (lv' := [(4, .int (v4 + 1)), (2, .int s0), (0, .ref (ad 0)), (1, .int v1), (3, .int v3)]) C 4 rfl rfl (by decide) rfl dL_adds_52 ?_
  refine j_goto C 7 dL_adds_55 (by decide) ?_
  refine j_sub [2, 3, 1, 4, 0] rfl ?_
  exact K7 a v1 s0 v3 (v4 + 1) ⟨hag0.1, hag0.2⟩ hf
set_option maxRecDepth 100000 in
set_option maxHeartbeats 4000000 in
theorem w_L_adds_50 {b : MS} {p : Program} {l : Launch} {e : Env} {s : State} {m : MethodId} {args : Array Value} {below : List Frame} {meth : Method} {c : Code} {G : GT} {A : Nat → Prop} {ad : Nat → Nat} (C : CX G A RL cL_adds 6 p s m args c) (hr : meth.sig.returnType = (some .boolean)) (hk : meth.locks = false) {ad0 : Nat → Nat} {n0 : Nat} {rr : Int32 × KS} (c7 : KS → Int32 → Int32 → Int32 → Int32 → Option (Int32 × KS)) (K7 : ∀ (a : KS) (v1 : Int32) (v2 : Int32) (v3 : Int32) (v4 : Int32), AGK ad0 ad n0 (Kn a) → c7 a v1 v2 v3 v4 = some rr → J p l e (RX 7 2 21) s m args below meth c G A 6 (MQ below (QV (some (.int rr.1)) (PosA G ad0 n0 rr.2 b A) A) args s 2 21 A) 0 0 ad a b 7 [(0, .ref (ad 0)), (1, .int v1), (2, .int v2), (3, .int v3), (4, .int v4)] []) (a : KS) (v1 : Int32) (v2 : Int32) (v3 : Int32) (v4 : Int32) (hag0 : AGK ad0 ad n0 (Kn a)) (hf : f_L_adds_50 c7 a v1 v2 v3 v4 = some rr) : J p l e (RX 7 2 21) s m args below meth c G A 6 (MQ below (QV (some (.int rr.1)) (PosA G ad0 n0 rr.2 b A) A) args s 2 21 A) 0 0 ad a b 50 [(0, .ref (ad 0)), (1, .int v1), (2, .int v2), (3, .int v3), (4, .int v4)] [] := by
  unfold f_L_adds_50 at hf
  refine j_iload_n C 2 rfl dL_adds_50 ?_
  refine j_sub [0, 1, 3, 4] rfl ?_
  exact w_L_adds_51 C hr hk c7 K7 a v1 v3 v4 v2 ⟨hag0.1, hag0.2⟩ hf
set_option maxRecDepth 100000 in
set_option maxHeartbeats 4000000 in
theorem w_L_adds_86 {b : MS} {p : Program} {l : Launch} {e : Env} {s : State} {m : MethodId} {args : Array Value} {below : List Frame} {meth : Method} {c : Code} {G : GT} {A : Nat → Prop} {ad : Nat → Nat} (C : CX G A RL cL_adds 6 p s m args c) (hr : meth.sig.returnType = (some .boolean)) (hk : meth.locks = false) {ad0 : Nat → Nat} {n0 : Nat} {rr : Int32 × KS} (c61 : KS → Int32 → Int32 → Int32 → Int32 → Option (Int32 × KS)) (K61 : ∀ (a : KS) (v1 : Int32) (v2 : Int32) (v3 : Int32) (v4 : Int32), AGK ad0 ad n0 (Kn a) → c61 a v1 v2 v3 v4 = some rr → J p l e (RX 7 2 21) s m args below meth c G A 6 (MQ below (QV (some (.int rr.1)) (PosA G ad0 n0 rr.2 b A) A) args s 2 21 A) 0 0 ad a b 61 [(0, .ref (ad 0)), (1, .int v1), (2, .int v2), (3, .int v3), (4, .int v4)] []) (a : KS) (v1 : Int32) (v2 : Int32) (v4 : Int32) (s0 : Int32) (s1 : Int32) (hag0 : AGK ad0 ad n0 (Kn a)) (hf : f_L_adds_86 c61 a v1 v2 v4 s0 s1 = some rr) : J p l e (RX 7 2 21) s m args below meth c G A 6 (MQ below (QV (some (.int rr.1)) (PosA G ad0 n0 rr.2 b A) A) args s 2 21 A) 0 0 ad a b 86 [(0, .ref (ad 0)), (1, .int v1), (2, .int v2), (4, .int v4)] [.int s1, .int s0] := by
  unfold f_L_adds_86 at hf
  refine j_iadd C dL_adds_86 ?_
  refine j_letI hf (fun x1 hf => ?_)
  refine j_istore_n (i := 3) (lv' := [(3, .int x1), (0, .ref (ad 0)), (1, .int v1), (2, .int v2), (4, .int v4)]) C dL_adds_87 rfl (by decide) rfl ?_
  refine j_iinc (v := v4 + 1) (lv' := [(4, .int (v4 + 1)), (3, .int x1), (0, .ref (ad 0)), (1, .int v1), (2, .int v2)]) C 4 rfl rfl (by decide) rfl dL_adds_88 ?_
  refine j_goto C 61 dL_adds_91 (by decide) ?_
  refine j_sub [2, 3, 4, 1, 0] rfl ?_
  exact K61 a v1 v2 x1 (v4 + 1) ⟨hag0.1, hag0.2⟩ hf
set_option maxRecDepth 100000 in
set_option maxHeartbeats 4000000 in
theorem w_L_adds_193 {b : MS} {p : Program} {l : Launch} {e : Env} {s : State} {m : MethodId} {args : Array Value} {below : List Frame} {meth : Method} {c : Code} {G : GT} {A : Nat → Prop} {ad : Nat → Nat} (C : CX G A RL cL_adds 6 p s m args c) (hr : meth.sig.returnType = (some .boolean)) (hk : meth.locks = false) {ad0 : Nat → Nat} {n0 : Nat} {rr : Int32 × KS}   (a : KS) (v1 : Int32) (s0 : Int32) (hag0 : AGK ad0 ad n0 (Kn a)) (hf : f_L_adds_193 a v1 s0 = some rr) : J p l e (RX 7 2 21) s m args below meth c G A 6 (MQ below (QV (some (.int rr.1)) (PosA G ad0 n0 rr.2 b A) A) args s 2 21 A) 2 21 ad a b 193 [(0, .ref (ad 0)), (1, .int v1)] [.int s0] := by
  unfold f_L_adds_193 at hf
  refine j_istore (lv' := [(5, .int s0), (0, .ref (ad 0)), (1, .int v1)]) C dL_adds_193 (by decide) rfl ?_
  refine j_iload C 0 rfl dL_adds_195 ?_
  refine j_aload_n C 1 rfl dL_adds_197 ?_
  obtain ⟨z1, h2, hf⟩ := bnd_some hf
  refine j_callV (q := 0) (As := []) (rest := [.int s0]) C (k_X8_items h2) cw_X8_items ml_L_11 m_0 ce_0 rfl rfl ⟨Nat.le_of_ble_eq_true rfl, Nat.le_of_ble_eq_true rfl⟩ ⟨Nat.le_of_ble_eq_true rfl, Nat.le_of_ble_eq_true rfl⟩ rfl (Nat.le_of_ble_eq_true rfl) dL_adds_198 ?_
  refine j_iconst (v := 1) C (by decide) dL_adds_201 ?_
  refine j_isub C dL_adds_202 ?_
  refine j_icmp_ne C 237 dL_adds_203 (by decide) hf (fun y4 hf => ?_) (fun y4 hf => ?_)
  · refine j_iconst (v := 0) C (by decide) dL_adds_237 ?_
    obtain rfl := Option.some.inj hf
    exact j_nzret C hr hk hag0.1 (by decide) ⟨Nat.le_of_ble_eq_true rfl, Nat.le_of_ble_eq_true rfl⟩ rfl dL_adds_238
  · refine j_iload_n C 2 rfl dL_adds_206 ?_
    refine j_bipush (v := 13) C (by decide) dL_adds_207 ?_
    refine j_ishr C dL_adds_209 ?_
    refine j_iconst (v := 3) C (by decide) dL_adds_210 ?_
    refine j_iand C dL_adds_211 ?_
    refine j_if_ne C 233 dL_adds_212 (by decide) hf (fun y5 hf => ?_) (fun y5 hf => ?_)
    · refine j_iconst (v := 1) C (by decide) dL_adds_233 ?_
      refine j_goto C 238 dL_adds_234 (by decide) ?_
      obtain rfl := Option.some.inj hf
      exact j_nzret C hr hk hag0.1 (by decide) ⟨Nat.le_of_ble_eq_true rfl, Nat.le_of_ble_eq_true rfl⟩ rfl dL_adds_238
    · refine j_aload_n C 1 rfl dL_adds_215 ?_
      refine j_iload C 0 rfl dL_adds_216 ?_
      refine j_iload_n C 2 rfl dL_adds_218 ?_
      refine j_bipush (v := 15) C (by decide) dL_adds_219 ?_
      refine j_ishr C dL_adds_221 ?_
      refine j_iconst (v := 3) C (by decide) dL_adds_222 ?_
      obtain ⟨z6, h7, hf⟩ := bnd_some hf
      refine j_callS (As := [.int (v1 >>> (15 &&& 31)), .int 3]) (rest := [.int s0, .ref (ad 0)]) C (k_L_up h7) cw_L_up ml_L_29 rfl ⟨Nat.le_of_ble_eq_true rfl, Nat.le_of_ble_eq_true rfl⟩ ⟨Nat.le_of_ble_eq_true rfl, Nat.le_of_ble_eq_true rfl⟩ rfl (Nat.le_of_ble_eq_true rfl) dL_adds_223 ?_
      obtain ⟨z9, h10, hf⟩ := bnd_some hf
      obtain ⟨y11, hf⟩ := gd_some hf
      have y11 := of_decide_eq_true y11
      refine j_callV (q := 0) (As := [.int s0, .int z6]) (rest := []) C (k_X8_lock h10 y11) cw_X8_lock ml_L_48 m_0 ce_0 rfl rfl ⟨Nat.le_of_ble_eq_true rfl, Nat.le_of_ble_eq_true rfl⟩ ⟨Nat.le_of_ble_eq_true rfl, Nat.le_of_ble_eq_true rfl⟩ rfl (Nat.le_of_ble_eq_true rfl) dL_adds_226 ?_
      refine j_iconst (v := -1) C (by decide) dL_adds_229 ?_
      refine j_icmp_ne C 237 dL_adds_230 (by decide) hf (fun y14 hf => ?_) (fun y14 hf => ?_)
      · refine j_iconst (v := 0) C (by decide) dL_adds_237 ?_
        obtain rfl := Option.some.inj hf
        exact j_nzret C hr hk hag0.1 (by decide) ⟨Nat.le_of_ble_eq_true rfl, Nat.le_of_ble_eq_true rfl⟩ rfl dL_adds_238
      · refine j_iconst (v := 1) C (by decide) dL_adds_233 ?_
        refine j_goto C 238 dL_adds_234 (by decide) ?_
        obtain rfl := Option.some.inj hf
        exact j_nzret C hr hk hag0.1 (by decide) ⟨Nat.le_of_ble_eq_true rfl, Nat.le_of_ble_eq_true rfl⟩ rfl dL_adds_238
set_option maxRecDepth 100000 in
set_option maxHeartbeats 4000000 in
theorem w_L_adds_61 {b : MS} {p : Program} {l : Launch} {e : Env} {s : State} {m : MethodId} {args : Array Value} {below : List Frame} {meth : Method} {c : Code} {G : GT} {A : Nat → Prop} {ad : Nat → Nat} (C : CX G A RL cL_adds 6 p s m args c) (hr : meth.sig.returnType = (some .boolean)) (hk : meth.locks = false) {ad0 : Nat → Nat} {n0 : Nat} {rr : Int32 × KS} (c61 : KS → Int32 → Int32 → Int32 → Int32 → Option (Int32 × KS)) (K61 : ∀ (a : KS) (v1 : Int32) (v2 : Int32) (v3 : Int32) (v4 : Int32), AGK ad0 ad n0 (Kn a) → c61 a v1 v2 v3 v4 = some rr → J p l e (RX 7 2 21) s m args below meth c G A 6 (MQ below (QV (some (.int rr.1)) (PosA G ad0 n0 rr.2 b A) A) args s 2 21 A) 0 0 ad a b 61 [(0, .ref (ad 0)), (1, .int v1), (2, .int v2), (3, .int v3), (4, .int v4)] []) (a : KS) (v1 : Int32) (v2 : Int32) (v3 : Int32) (v4 : Int32) (hag0 : AGK ad0 ad n0 (Kn a)) (hf : f_L_adds_61 c61 a v1 v2 v3 v4 = some rr) : J p l e (RX 7 2 21) s m args below meth c G A 6 (MQ below (QV (some (.int rr.1)) (PosA G ad0 n0 rr.2 b A) A) args s 2 21 A) 0 0 ad a b 61 [(0, .ref (ad 0)), (1, .int v1), (2, .int v2), (3, .int v3), (4, .int v4)] [] := by
  unfold f_L_adds_61 at hf
  refine j_iload C 4 rfl dL_adds_61 ?_
  refine j_aload_n C 0 rfl dL_adds_63 ?_
  obtain ⟨z1, h2, hf⟩ := bnd_some hf
  refine j_callV (q := 0) (As := []) (rest := [.int v4]) C (k_X8_items h2) cw_X8_items ml_L_11 m_0 ce_0 rfl rfl ⟨Nat.le_of_ble_eq_true rfl, Nat.le_of_ble_eq_true rfl⟩ ⟨Nat.le_of_ble_eq_true rfl, Nat.le_of_ble_eq_true rfl⟩ rfl (Nat.le_of_ble_eq_true rfl) dL_adds_64 ?_
  refine j_icmp_ge C 94 dL_adds_67 (by decide) hf (fun y4 hf => ?_) (fun y4 hf => ?_)
  · refine j_iload_n C 3 rfl dL_adds_94 ?_
    refine j_bipush (v := 8) C (by decide) dL_adds_95 ?_
    refine j_icmp_ne C 102 dL_adds_97 (by decide) hf (fun y5 hf => ?_) (fun y5 hf => ?_)
    · refine j_iload_n C 1 rfl dL_adds_102 ?_
      refine j_iconst (v := 5) C (by decide) dL_adds_103 ?_
      refine j_ishr C dL_adds_104 ?_
      refine j_sipush (v := 200) C (by decide) dL_adds_105 ?_
      obtain ⟨z6, h7, hf⟩ := bnd_some hf
      refine j_callS (As := [.int (v1 >>> (5 &&& 31)), .int 200]) (rest := []) C (k_L_up h7) cw_L_up ml_L_29 rfl ⟨Nat.le_of_ble_eq_true rfl, Nat.le_of_ble_eq_true rfl⟩ ⟨Nat.le_of_ble_eq_true rfl, Nat.le_of_ble_eq_true rfl⟩ rfl (Nat.le_of_ble_eq_true rfl) dL_adds_108 ?_
      refine j_bipush (v := 100) C (by decide) dL_adds_111 ?_
      refine j_isub C dL_adds_113 ?_
      refine j_letI hf (fun x9 hf => ?_)
      refine j_istore (lv' := [(4, .int x9), (0, .ref (ad 0)), (1, .int v1), (2, .int v2), (3, .int v3)]) C dL_adds_114 (by decide) rfl ?_
      refine j_iload_n C 2 rfl dL_adds_116 ?_
      refine j_iconst (v := 3) C (by decide) dL_adds_117 ?_
      obtain ⟨z10, h11, hf⟩ := bnd_some hf
      refine j_callS (As := [.int v1, .int 3]) (rest := []) C (k_L_up h11) cw_L_up ml_L_29 rfl ⟨Nat.le_of_ble_eq_true rfl, Nat.le_of_ble_eq_true rfl⟩ ⟨Nat.le_of_ble_eq_true rfl, Nat.le_of_ble_eq_true rfl⟩ rfl (Nat.le_of_ble_eq_true rfl) dL_adds_118 ?_
      refine j_if_ne C 132 dL_adds_121 (by decide) hf (fun y13 hf => ?_) (fun y13 hf => ?_)
      · refine j_iload_n C 2 rfl dL_adds_132 ?_
        refine j_iconst (v := 3) C (by decide) dL_adds_133 ?_
        obtain ⟨z14, h15, hf⟩ := bnd_some hf
        refine j_callS (As := [.int v1, .int 3]) (rest := []) C (k_L_up h15) cw_L_up ml_L_29 rfl ⟨Nat.le_of_ble_eq_true rfl, Nat.le_of_ble_eq_true rfl⟩ ⟨Nat.le_of_ble_eq_true rfl, Nat.le_of_ble_eq_true rfl⟩ rfl (Nat.le_of_ble_eq_true rfl) dL_adds_134 ?_
        refine j_iconst (v := 1) C (by decide) dL_adds_137 ?_
        refine j_icmp_ne C 177 dL_adds_138 (by decide) hf (fun y17 hf => ?_) (fun y17 hf => ?_)
        · refine j_aload_n C 1 rfl dL_adds_177 ?_
          refine j_iload_n C 3 rfl dL_adds_178 ?_
          refine j_iconst (v := 2) C (by decide) dL_adds_179 ?_
          refine j_iload_n C 2 rfl dL_adds_180 ?_
          refine j_bipush (v := 6) C (by decide) dL_adds_181 ?_
          refine j_ishr C dL_adds_183 ?_
          refine j_bipush (v := 8) C (by decide) dL_adds_184 ?_
          obtain ⟨z18, h19, hf⟩ := bnd_some hf
          refine j_callS (As := [.int (v1 >>> (6 &&& 31)), .int 8]) (rest := [.int 2, .int v2, .ref (ad 0)]) C (k_L_up h19) cw_L_up ml_L_29 rfl ⟨Nat.le_of_ble_eq_true rfl, Nat.le_of_ble_eq_true rfl⟩ ⟨Nat.le_of_ble_eq_true rfl, Nat.le_of_ble_eq_true rfl⟩ rfl (Nat.le_of_ble_eq_true rfl) dL_adds_186 ?_
          refine j_iadd C dL_adds_189 ?_
          obtain ⟨z21, h22, hf⟩ := bnd_some hf
          obtain ⟨y23, hf⟩ := gd_some hf
          have y23 := of_decide_eq_true y23
          refine j_ncallV (q := 0) (As := [.int v2, .int (2 + z18)]) (rest := []) C (k_X8_addChoice h22 y23) cw_X8_addChoice ml_L_45 m_0 ce_0 rfl rfl ⟨Nat.le_of_ble_eq_true rfl, Nat.le_of_ble_eq_true rfl⟩ ⟨Nat.le_of_ble_eq_true rfl, Nat.le_of_ble_eq_true rfl⟩ rfl (Nat.le_of_ble_eq_true rfl) dL_adds_190 (fun ad24 hg25 => ?_)
          rw [← hg25 0 m_0]
          obtain ⟨h26, hf⟩ := gd_some hf
          have h26 := of_decide_eq_true h26
          refine j_widen 2 21 (Nat.le_of_ble_eq_true rfl) (Nat.le_of_ble_eq_true rfl) ?_
          refine j_sub [1, 2] rfl ?_
          exact w_L_adds_193 C hr hk z21.2.2 v1 z21.2.1 ⟨(AGK.tr hag0 hg25), (Nat.le_trans hag0.2 h26)⟩ hf
        · refine j_aload_n C 1 rfl dL_adds_141 ?_
          refine j_iload_n C 3 rfl dL_adds_142 ?_
          refine j_iload C 0 rfl dL_adds_143 ?_
          refine j_iload C 0 rfl dL_adds_145 ?_
          refine j_iconst (v := 1) C (by decide) dL_adds_147 ?_
          refine j_iadd C dL_adds_148 ?_
          refine j_iload_n C 2 rfl dL_adds_149 ?_
          refine j_bipush (v := 8) C (by decide) dL_adds_150 ?_
          refine j_ishr C dL_adds_152 ?_
          refine j_sipush (v := 300) C (by decide) dL_adds_153 ?_
          obtain ⟨z29, h30, hf⟩ := bnd_some hf
          refine j_callS (As := [.int (v1 >>> (8 &&& 31)), .int 300]) (rest := [.int (x9 + 1), .int x9, .int v2, .ref (ad 0)]) C (k_L_up h30) cw_L_up ml_L_29 rfl ⟨Nat.le_of_ble_eq_true rfl, Nat.le_of_ble_eq_true rfl⟩ ⟨Nat.le_of_ble_eq_true rfl, Nat.le_of_ble_eq_true rfl⟩ rfl (Nat.le_of_ble_eq_true rfl) dL_adds_156 ?_
          refine j_iadd C dL_adds_159 ?_
          refine j_iconst (v := 1) C (by decide) dL_adds_160 ?_
          refine j_iload_n C 2 rfl dL_adds_161 ?_
          refine j_bipush (v := 10) C (by decide) dL_adds_162 ?_
          refine j_ishr C dL_adds_164 ?_
          refine j_bipush (v := 9) C (by decide) dL_adds_165 ?_
          obtain ⟨z32, h33, hf⟩ := bnd_some hf
          refine j_callS (As := [.int (v1 >>> (10 &&& 31)), .int 9]) (rest := [.int 1, .int ((x9 + 1) + z29), .int x9, .int v2, .ref (ad 0)]) C (k_L_up h33) cw_L_up ml_L_29 rfl ⟨Nat.le_of_ble_eq_true rfl, Nat.le_of_ble_eq_true rfl⟩ ⟨Nat.le_of_ble_eq_true rfl, Nat.le_of_ble_eq_true rfl⟩ rfl (Nat.le_of_ble_eq_true rfl) dL_adds_167 ?_
          refine j_iadd C dL_adds_170 ?_
          obtain ⟨z35, h36, hf⟩ := bnd_some hf
          obtain ⟨y37, hf⟩ := gd_some hf
          have y37 := of_decide_eq_true y37
          refine j_ncallV (q := 0) (As := [.int v2, .int x9, .int ((x9 + 1) + z29), .int (1 + z32)]) (rest := []) C (k_X8_addNumber h36 y37) cw_X8_addNumber ml_L_41 m_0 ce_0 rfl rfl ⟨Nat.le_of_ble_eq_true rfl, Nat.le_of_ble_eq_true rfl⟩ ⟨Nat.le_of_ble_eq_true rfl, Nat.le_of_ble_eq_true rfl⟩ rfl (Nat.le_of_ble_eq_true rfl) dL_adds_171 (fun ad38 hg39 => ?_)
          rw [← hg39 0 m_0]
          obtain ⟨h40, hf⟩ := gd_some hf
          have h40 := of_decide_eq_true h40
          refine j_widen 2 21 (Nat.le_of_ble_eq_true rfl) (Nat.le_of_ble_eq_true rfl) ?_
          refine j_goto C 193 dL_adds_174 (by decide) ?_
          refine j_sub [1, 2] rfl ?_
          exact w_L_adds_193 C hr hk z35.2.2 v1 z35.2.1 ⟨(AGK.tr hag0 hg39), (Nat.le_trans hag0.2 h40)⟩ hf
      · refine j_aload_n C 1 rfl dL_adds_124 ?_
        refine j_iload_n C 3 rfl dL_adds_125 ?_
        obtain ⟨z43, h44, hf⟩ := bnd_some hf
        obtain ⟨y45, hf⟩ := gd_some hf
        have y45 := of_decide_eq_true y45
        refine j_ncallV (q := 0) (As := [.int v2]) (rest := []) C (k_X8_addMenu h44 y45) cw_X8_addMenu ml_L_38 m_0 ce_0 rfl rfl ⟨Nat.le_of_ble_eq_true rfl, Nat.le_of_ble_eq_true rfl⟩ ⟨Nat.le_of_ble_eq_true rfl, Nat.le_of_ble_eq_true rfl⟩ rfl (Nat.le_of_ble_eq_true rfl) dL_adds_126 (fun ad46 hg47 => ?_)
        rw [← hg47 0 m_0]
        obtain ⟨h48, hf⟩ := gd_some hf
        have h48 := of_decide_eq_true h48
        refine j_widen 2 21 (Nat.le_of_ble_eq_true rfl) (Nat.le_of_ble_eq_true rfl) ?_
        refine j_goto C 193 dL_adds_129 (by decide) ?_
        refine j_sub [1, 2] rfl ?_
        exact w_L_adds_193 C hr hk z43.2.2 v1 z43.2.1 ⟨(AGK.tr hag0 hg47), (Nat.le_trans hag0.2 h48)⟩ hf
    · refine j_iconst (v := 1) C (by decide) dL_adds_100 ?_
      obtain rfl := Option.some.inj hf
      exact j_nzret C hr hk hag0.1 (by decide) ⟨Nat.le_of_ble_eq_true rfl, Nat.le_of_ble_eq_true rfl⟩ rfl dL_adds_101
  · refine j_iload_n C 3 rfl dL_adds_70 ?_
    refine j_aload_n C 0 rfl dL_adds_71 ?_
    refine j_iload C 4 rfl dL_adds_72 ?_
    obtain ⟨z51, h52, hf⟩ := bnd_some hf
    obtain ⟨y53, hf⟩ := gd_some hf
    have y53 := of_decide_eq_true y53
    refine j_callV (q := 0) (As := [.int v4]) (rest := [.int v3]) C (k_X8_menuOf h52 y53) cw_X8_menuOf ml_L_35 m_0 ce_0 rfl rfl ⟨Nat.le_of_ble_eq_true rfl, Nat.le_of_ble_eq_true rfl⟩ ⟨Nat.le_of_ble_eq_true rfl, Nat.le_of_ble_eq_true rfl⟩ rfl (Nat.le_of_ble_eq_true rfl) dL_adds_74 ?_
    refine j_iload_n C 2 rfl dL_adds_77 ?_
    refine j_icmp_ne C 85 dL_adds_78 (by decide) hf (fun y54 hf => ?_) (fun y54 hf => ?_)
    · refine j_iconst (v := 0) C (by decide) dL_adds_85 ?_
      refine j_sub [0, 1, 2, 4] rfl ?_
      exact w_L_adds_86 C hr hk c61 K61 a v1 v2 v4 v3 0 ⟨hag0.1, hag0.2⟩ hf
    · refine j_iconst (v := 1) C (by decide) dL_adds_81 ?_
      refine j_goto C 86 dL_adds_82 (by decide) ?_
      refine j_sub [0, 1, 2, 4] rfl ?_
      exact w_L_adds_86 C hr hk c61 K61 a v1 v2 v4 v3 1 ⟨hag0.1, hag0.2⟩ hf
theorem wl_L_adds_61 {b : MS} {p : Program} {l : Launch} {e : Env} {s : State} {m : MethodId} {args : Array Value} {below : List Frame} {meth : Method} {c : Code} {G : GT} {A : Nat → Prop} {ad : Nat → Nat} (C : CX G A RL cL_adds 6 p s m args c) (hr : meth.sig.returnType = (some .boolean)) (hk : meth.locks = false) {ad0 : Nat → Nat} {n0 : Nat} {rr : Int32 × KS} (fuel : Nat)   : ∀ (a : KS) (v1 : Int32) (v2 : Int32) (v3 : Int32) (v4 : Int32), AGK ad0 ad n0 (Kn a) → l_L_adds_61 fuel  a v1 v2 v3 v4 = some rr → J p l e (RX 7 2 21) s m args below meth c G A 6 (MQ below (QV (some (.int rr.1)) (PosA G ad0 n0 rr.2 b A) A) args s 2 21 A) 0 0 ad a b 61 [(0, .ref (ad 0)), (1, .int v1), (2, .int v2), (3, .int v3), (4, .int v4)] [] := by
  induction fuel with
  | zero => intro a v1 v2 v3 v4 hag0 hf; cases hf
  | succ n ih =>
    intro a v1 v2 v3 v4 hag0 hf
    have hf : f_L_adds_61 (l_L_adds_61 n ) a v1 v2 v3 v4 = some rr := hf
    exact w_L_adds_61 C hr hk (l_L_adds_61 n ) ih a v1 v2 v3 v4 hag0 hf
set_option maxRecDepth 100000 in
set_option maxHeartbeats 4000000 in
theorem w_L_adds_7 {b : MS} {p : Program} {l : Launch} {e : Env} {s : State} {m : MethodId} {args : Array Value} {below : List Frame} {meth : Method} {c : Code} {G : GT} {A : Nat → Prop} {ad : Nat → Nat} (C : CX G A RL cL_adds 6 p s m args c) (hr : meth.sig.returnType = (some .boolean)) (hk : meth.locks = false) {ad0 : Nat → Nat} {n0 : Nat} {rr : Int32 × KS} (c7 : KS → Int32 → Int32 → Int32 → Int32 → Option (Int32 × KS)) (K7 : ∀ (a : KS) (v1 : Int32) (v2 : Int32) (v3 : Int32) (v4 : Int32), AGK ad0 ad n0 (Kn a) → c7 a v1 v2 v3 v4 = some rr → J p l e (RX 7 2 21) s m args below meth c G A 6 (MQ below (QV (some (.int rr.1)) (PosA G ad0 n0 rr.2 b A) A) args s 2 21 A) 0 0 ad a b 7 [(0, .ref (ad 0)), (1, .int v1), (2, .int v2), (3, .int v3), (4, .int v4)] []) (a : KS) (v1 : Int32) (v2 : Int32) (v3 : Int32) (v4 : Int32) (hag0 : AGK ad0 ad n0 (Kn a)) (hf : f_L_adds_7 c7 a v1 v2 v3 v4 = some rr) : J p l e (RX 7 2 21) s m args below meth c G A 6 (MQ below (QV (some (.int rr.1)) (PosA G ad0 n0 rr.2 b A) A) args s 2 21 A) 0 0 ad a b 7 [(0, .ref (ad 0)), (1, .int v1), (2, .int v2), (3, .int v3), (4, .int v4)] [] := by
  unfold f_L_adds_7 at hf
  refine j_iload C 4 rfl dL_adds_7 ?_
  refine j_aload_n C 0 rfl dL_adds_9 ?_
  obtain ⟨z1, h2, hf⟩ := bnd_some hf
  refine j_callV (q := 0) (As := []) (rest := [.int v4]) C (k_X8_items h2) cw_X8_items ml_L_11 m_0 ce_0 rfl rfl ⟨Nat.le_of_ble_eq_true rfl, Nat.le_of_ble_eq_true rfl⟩ ⟨Nat.le_of_ble_eq_true rfl, Nat.le_of_ble_eq_true rfl⟩ rfl (Nat.le_of_ble_eq_true rfl) dL_adds_10 ?_
  refine j_icmp_ge C 58 dL_adds_13 (by decide) hf (fun y4 hf => ?_) (fun y4 hf => ?_)
  · refine j_iconst (v := 1) C (by decide) dL_adds_58 ?_
    refine j_istore (lv' := [(4, .int 1), (0, .ref (ad 0)), (1, .int v1), (2, .int v2), (3, .int v3)]) C dL_adds_59 (by decide) rfl ?_
    refine j_sub [1, 2, 3, 4, 0] rfl ?_
    exact wl_L_adds_61 C hr hk FU a v1 v2 v3 1 ⟨hag0.1, hag0.2⟩ hf
  · refine j_aload_n C 0 rfl dL_adds_16 ?_
    refine j_iload C 4 rfl dL_adds_17 ?_
    obtain ⟨z5, h6, hf⟩ := bnd_some hf
    obtain ⟨y7, hf⟩ := gd_some hf
    have y7 := of_decide_eq_true y7
    refine j_callV (q := 0) (As := [.int v4]) (rest := []) C (k_X8_kind h6 y7) cw_X8_kind ml_L_19 m_0 ce_0 rfl rfl ⟨Nat.le_of_ble_eq_true rfl, Nat.le_of_ble_eq_true rfl⟩ ⟨Nat.le_of_ble_eq_true rfl, Nat.le_of_ble_eq_true rfl⟩ rfl (Nat.le_of_ble_eq_true rfl) dL_adds_19 ?_
    refine j_if_ne C 50 dL_adds_22 (by decide) hf (fun y8 hf => ?_) (fun y8 hf => ?_)
    · refine j_sub [0, 1, 2, 3, 4] rfl ?_
      exact w_L_adds_50 C hr hk c7 K7 a v1 v2 v3 v4 ⟨hag0.1, hag0.2⟩ hf
    · refine j_aload_n C 0 rfl dL_adds_25 ?_
      refine j_iload C 4 rfl dL_adds_26 ?_
      obtain ⟨z9, h10, hf⟩ := bnd_some hf
      obtain ⟨y11, hf⟩ := gd_some hf
      have y11 := of_decide_eq_true y11
      refine j_callV (q := 0) (As := [.int v4]) (rest := []) C (k_X8_pressesTo h10 y11) cw_X8_pressesTo ml_L_26 m_0 ce_0 rfl rfl ⟨Nat.le_of_ble_eq_true rfl, Nat.le_of_ble_eq_true rfl⟩ ⟨Nat.le_of_ble_eq_true rfl, Nat.le_of_ble_eq_true rfl⟩ rfl (Nat.le_of_ble_eq_true rfl) dL_adds_28 ?_
      refine j_iconst (v := 3) C (by decide) dL_adds_31 ?_
      refine j_icmp_ge C 50 dL_adds_32 (by decide) hf (fun y12 hf => ?_) (fun y12 hf => ?_)
      · refine j_sub [0, 1, 2, 3, 4] rfl ?_
        exact w_L_adds_50 C hr hk c7 K7 a v1 v2 v3 v4 ⟨hag0.1, hag0.2⟩ hf
      · refine j_iload_n C 1 rfl dL_adds_35 ?_
        refine j_iconst (v := 3) C (by decide) dL_adds_36 ?_
        refine j_ishr C dL_adds_37 ?_
        refine j_iconst (v := 4) C (by decide) dL_adds_38 ?_
        obtain ⟨z13, h14, hf⟩ := bnd_some hf
        refine j_callS (As := [.int (v1 >>> (3 &&& 31)), .int 4]) (rest := []) C (k_L_up h14) cw_L_up ml_L_29 rfl ⟨Nat.le_of_ble_eq_true rfl, Nat.le_of_ble_eq_true rfl⟩ ⟨Nat.le_of_ble_eq_true rfl, Nat.le_of_ble_eq_true rfl⟩ rfl (Nat.le_of_ble_eq_true rfl) dL_adds_39 ?_
        refine j_if_eq C 50 dL_adds_42 (by decide) hf (fun y16 hf => ?_) (fun y16 hf => ?_)
        · refine j_sub [0, 1, 2, 3, 4] rfl ?_
          exact w_L_adds_50 C hr hk c7 K7 a v1 v2 v3 v4 ⟨hag0.1, hag0.2⟩ hf
        · refine j_iload C 4 rfl dL_adds_45 ?_
          refine j_goto C 51 dL_adds_47 (by decide) ?_
          refine j_sub [0, 1, 3, 4] rfl ?_
          exact w_L_adds_51 C hr hk c7 K7 a v1 v3 v4 v4 ⟨hag0.1, hag0.2⟩ hf
theorem wl_L_adds_7 {b : MS} {p : Program} {l : Launch} {e : Env} {s : State} {m : MethodId} {args : Array Value} {below : List Frame} {meth : Method} {c : Code} {G : GT} {A : Nat → Prop} {ad : Nat → Nat} (C : CX G A RL cL_adds 6 p s m args c) (hr : meth.sig.returnType = (some .boolean)) (hk : meth.locks = false) {ad0 : Nat → Nat} {n0 : Nat} {rr : Int32 × KS} (fuel : Nat)   : ∀ (a : KS) (v1 : Int32) (v2 : Int32) (v3 : Int32) (v4 : Int32), AGK ad0 ad n0 (Kn a) → l_L_adds_7 fuel  a v1 v2 v3 v4 = some rr → J p l e (RX 7 2 21) s m args below meth c G A 6 (MQ below (QV (some (.int rr.1)) (PosA G ad0 n0 rr.2 b A) A) args s 2 21 A) 0 0 ad a b 7 [(0, .ref (ad 0)), (1, .int v1), (2, .int v2), (3, .int v3), (4, .int v4)] [] := by
  induction fuel with
  | zero => intro a v1 v2 v3 v4 hag0 hf; cases hf
  | succ n ih =>
    intro a v1 v2 v3 v4 hag0 hf
    have hf : f_L_adds_7 (l_L_adds_7 n ) a v1 v2 v3 v4 = some rr := hf
    exact w_L_adds_7 C hr hk (l_L_adds_7 n ) ih a v1 v2 v3 v4 hag0 hf
set_option maxRecDepth 100000 in
set_option maxHeartbeats 4000000 in
theorem k_L_adds {l : Launch} {G : GT} {ad : Nat → Nat} {a : KS} {v1 : Int32} {b : MS} {rr : Int32 × KS} (hf : f_L_adds a v1 = some rr) : MN l G yL_adds cL_adds 6 (some .boolean) (RX 7 2 21) [.ref (ad 0), .int v1] ad a b (some (.int rr.1)) rr.2 b := by
  refine MN_of2 (lv := [(0, .ref (ad 0)), (1, .int v1)]) (by decide) (by first | exact Nat.le_of_ble_eq_true rfl | (simp only [lg_sl, List.flatMap_cons, List.flatMap_nil, itv_cat]; exact Nat.le_of_ble_eq_true rfl)) (by first | rfl | (simp only [lv_args, itv_cat] <;> rfl)) ?_
  intro p e s m args below meth c A C hr hk
  have hag0 : AGK ad ad (Kn a) (Kn a) := ⟨fun _ _ => rfl, Nat.le_refl _⟩
  unfold f_L_adds at hf
  refine j_iconst (v := 0) C (by decide) dL_adds_0 ?_
  refine j_istore_n (i := 2) (lv' := [(2, .int 0), (0, .ref (ad 0)), (1, .int v1)]) C dL_adds_1 rfl (by decide) rfl ?_
  refine j_iconst (v := 0) C (by decide) dL_adds_2 ?_
  refine j_istore_n (i := 3) (lv' := [(3, .int 0), (2, .int 0), (0, .ref (ad 0)), (1, .int v1)]) C dL_adds_3 rfl (by decide) rfl ?_
  refine j_iconst (v := 0) C (by decide) dL_adds_4 ?_
  refine j_istore (lv' := [(4, .int 0), (3, .int 0), (2, .int 0), (0, .ref (ad 0)), (1, .int v1)]) C dL_adds_5 (by decide) rfl ?_
  refine j_sub [3, 4, 2, 1, 0] rfl ?_
  exact wl_L_adds_7 C hr hk FU a v1 0 0 0 ⟨hag0.1, hag0.2⟩ hf
set_option maxRecDepth 100000 in
set_option maxHeartbeats 4000000 in
theorem w_L_holds_186 {b : MS} {p : Program} {l : Launch} {e : Env} {s : State} {m : MethodId} {args : Array Value} {below : List Frame} {meth : Method} {c : Code} {G : GT} {A : Nat → Prop} {ad : Nat → Nat} (C : CX G A RL cL_holds 7 p s m args c) (hr : meth.sig.returnType = (some .boolean)) (hk : meth.locks = false) {rr : Int32 × KS} (c131 : KS → Int32 → Int64 → Int32 → Int32 → Option (Int32 × KS)) (K131 : ∀ (a : KS) (v1 : Int32) (v2 : Int64) (v4 : Int32) (v5 : Int32), c131 a v1 v2 v4 v5 = some rr → J p l e (RM 11) s m args below meth c G A 7 (MQ below (QV (some (.int rr.1)) (PosW G ad rr.2 b A) A) args s 0 0 A) 0 0 ad a b 131 [(0, .ref (ad 0)), (1, .int v1), (2, .long v2), (4, .int v4), (5, .int v5)] []) (a : KS) (v1 : Int32) (v2 : Int64) (v5 : Int32) (s0 : Int32) (hf : f_L_holds_186 c131 a v1 v2 v5 s0 = some rr) : J p l e (RM 11) s m args below meth c G A 7 (MQ below (QV (some (.int rr.1)) (PosW G ad rr.2 b A) A) args s 0 0 A) 0 0 ad a b 186 [(0, .ref (ad 0)), (1, .int v1), (2, .long v2), (5, .int v5)] [.int s0] := by
  unfold f_L_holds_186 at hf
  refine j_istore (lv' := [(4, .int s0), (0, .ref (ad 0)), (1, .int v1), (2, .long v2), (5, .int v5)]) C dL_holds_186 (by decide) rfl ?_
  refine j_iinc (v := v5 + 1) (lv' := [(5, .int (v5 + 1)), (4, .int s0), (0, .ref (ad 0)), (1, .int v1), (2, .long v2)]) C 4 rfl rfl (by decide) rfl dL_holds_188 ?_
  refine j_goto C 131 dL_holds_191 (by decide) ?_
  refine j_sub [2, 3, 4, 1, 0] rfl ?_
  exact K131 a v1 v2 s0 (v5 + 1) hf
set_option maxRecDepth 100000 in
set_option maxHeartbeats 4000000 in
theorem w_L_holds_185 {b : MS} {p : Program} {l : Launch} {e : Env} {s : State} {m : MethodId} {args : Array Value} {below : List Frame} {meth : Method} {c : Code} {G : GT} {A : Nat → Prop} {ad : Nat → Nat} (C : CX G A RL cL_holds 7 p s m args c) (hr : meth.sig.returnType = (some .boolean)) (hk : meth.locks = false) {rr : Int32 × KS} (c131 : KS → Int32 → Int64 → Int32 → Int32 → Option (Int32 × KS)) (K131 : ∀ (a : KS) (v1 : Int32) (v2 : Int64) (v4 : Int32) (v5 : Int32), c131 a v1 v2 v4 v5 = some rr → J p l e (RM 11) s m args below meth c G A 7 (MQ below (QV (some (.int rr.1)) (PosW G ad rr.2 b A) A) args s 0 0 A) 0 0 ad a b 131 [(0, .ref (ad 0)), (1, .int v1), (2, .long v2), (4, .int v4), (5, .int v5)] []) (a : KS) (v1 : Int32) (v2 : Int64) (v5 : Int32) (hf : f_L_holds_185 c131 a v1 v2 v5 = some rr) : J p l e (RM 11) s m args below meth c G A 7 (MQ below (QV (some (.int rr.1)) (PosW G ad rr.2 b A) A) args s 0 0 A) 0 0 ad a b 185 [(0, .ref (ad 0)), (1, .int v1), (2, .long v2), (5, .int v5)] [] := by
  unfold f_L_holds_185 at hf
  refine j_iconst (v := 0) C (by decide) dL_holds_185 ?_
  refine j_sub [0, 1, 2, 3] rfl ?_
  exact w_L_holds_186 C hr hk c131 K131 a v1 v2 v5 0 hf
set_option maxRecDepth 100000 in
set_option maxHeartbeats 4000000 in
theorem w_L_holds_335 {b : MS} {p : Program} {l : Launch} {e : Env} {s : State} {m : MethodId} {args : Array Value} {below : List Frame} {meth : Method} {c : Code} {G : GT} {A : Nat → Prop} {ad : Nat → Nat} (C : CX G A RL cL_holds 7 p s m args c) (hr : meth.sig.returnType = (some .boolean)) (hk : meth.locks = false) {rr : Int32 × KS} (c197 : KS → Int32 → Int64 → Int32 → Int32 → Option (Int32 × KS)) (K197 : ∀ (a : KS) (v1 : Int32) (v2 : Int64) (v4 : Int32) (v5 : Int32), c197 a v1 v2 v4 v5 = some rr → J p l e (RM 11) s m args below meth c G A 7 (MQ below (QV (some (.int rr.1)) (PosW G ad rr.2 b A) A) args s 0 0 A) 0 0 ad a b 197 [(0, .ref (ad 0)), (1, .int v1), (2, .long v2), (4, .int v4), (5, .int v5)] []) (a : KS) (v1 : Int32) (v2 : Int64) (v5 : Int32) (s0 : Int32) (hf : f_L_holds_335 c197 a v1 v2 v5 s0 = some rr) : J p l e (RM 11) s m args below meth c G A 7 (MQ below (QV (some (.int rr.1)) (PosW G ad rr.2 b A) A) args s 0 0 A) 0 0 ad a b 335 [(0, .ref (ad 0)), (1, .int v1), (2, .long v2), (5, .int v5)] [.int s0] := by
  unfold f_L_holds_335 at hf
  refine j_istore (lv' := [(4, .int s0), (0, .ref (ad 0)), (1, .int v1), (2, .long v2), (5, .int v5)]) C dL_holds_335 (by decide) rfl ?_
  refine j_iinc (v := v5 + 1) (lv' := [(5, .int (v5 + 1)), (4, .int s0), (0, .ref (ad 0)), (1, .int v1), (2, .long v2)]) C 4 rfl rfl (by decide) rfl dL_holds_337 ?_
  refine j_goto C 197 dL_holds_340 (by decide) ?_
  refine j_sub [2, 3, 4, 1, 0] rfl ?_
  exact K197 a v1 v2 s0 (v5 + 1) hf
set_option maxRecDepth 100000 in
set_option maxHeartbeats 4000000 in
theorem w_L_holds_330 {b : MS} {p : Program} {l : Launch} {e : Env} {s : State} {m : MethodId} {args : Array Value} {below : List Frame} {meth : Method} {c : Code} {G : GT} {A : Nat → Prop} {ad : Nat → Nat} (C : CX G A RL cL_holds 7 p s m args c) (hr : meth.sig.returnType = (some .boolean)) (hk : meth.locks = false) {rr : Int32 × KS} (c197 : KS → Int32 → Int64 → Int32 → Int32 → Option (Int32 × KS)) (K197 : ∀ (a : KS) (v1 : Int32) (v2 : Int64) (v4 : Int32) (v5 : Int32), c197 a v1 v2 v4 v5 = some rr → J p l e (RM 11) s m args below meth c G A 7 (MQ below (QV (some (.int rr.1)) (PosW G ad rr.2 b A) A) args s 0 0 A) 0 0 ad a b 197 [(0, .ref (ad 0)), (1, .int v1), (2, .long v2), (4, .int v4), (5, .int v5)] []) (a : KS) (v1 : Int32) (v2 : Int64) (v5 : Int32) (hf : f_L_holds_330 c197 a v1 v2 v5 = some rr) : J p l e (RM 11) s m args below meth c G A 7 (MQ below (QV (some (.int rr.1)) (PosW G ad rr.2 b A) A) args s 0 0 A) 0 0 ad a b 330 [(0, .ref (ad 0)), (1, .int v1), (2, .long v2), (5, .int v5)] [] := by
  unfold f_L_holds_330 at hf
  refine j_iconst (v := 1) C (by decide) dL_holds_330 ?_
  refine j_goto C 335 dL_holds_331 (by decide) ?_
  refine j_sub [0, 1, 2, 3] rfl ?_
  exact w_L_holds_335 C hr hk c197 K197 a v1 v2 v5 1 hf
set_option maxRecDepth 100000 in
set_option maxHeartbeats 4000000 in
theorem w_L_holds_334 {b : MS} {p : Program} {l : Launch} {e : Env} {s : State} {m : MethodId} {args : Array Value} {below : List Frame} {meth : Method} {c : Code} {G : GT} {A : Nat → Prop} {ad : Nat → Nat} (C : CX G A RL cL_holds 7 p s m args c) (hr : meth.sig.returnType = (some .boolean)) (hk : meth.locks = false) {rr : Int32 × KS} (c197 : KS → Int32 → Int64 → Int32 → Int32 → Option (Int32 × KS)) (K197 : ∀ (a : KS) (v1 : Int32) (v2 : Int64) (v4 : Int32) (v5 : Int32), c197 a v1 v2 v4 v5 = some rr → J p l e (RM 11) s m args below meth c G A 7 (MQ below (QV (some (.int rr.1)) (PosW G ad rr.2 b A) A) args s 0 0 A) 0 0 ad a b 197 [(0, .ref (ad 0)), (1, .int v1), (2, .long v2), (4, .int v4), (5, .int v5)] []) (a : KS) (v1 : Int32) (v2 : Int64) (v5 : Int32) (hf : f_L_holds_334 c197 a v1 v2 v5 = some rr) : J p l e (RM 11) s m args below meth c G A 7 (MQ below (QV (some (.int rr.1)) (PosW G ad rr.2 b A) A) args s 0 0 A) 0 0 ad a b 334 [(0, .ref (ad 0)), (1, .int v1), (2, .long v2), (5, .int v5)] [] := by
  unfold f_L_holds_334 at hf
  refine j_iconst (v := 0) C (by decide) dL_holds_334 ?_
  refine j_sub [0, 1, 2, 3] rfl ?_
  exact w_L_holds_335 C hr hk c197 K197 a v1 v2 v5 0 hf
set_option maxRecDepth 100000 in
set_option maxHeartbeats 4000000 in
theorem w_L_holds_296 {b : MS} {p : Program} {l : Launch} {e : Env} {s : State} {m : MethodId} {args : Array Value} {below : List Frame} {meth : Method} {c : Code} {G : GT} {A : Nat → Prop} {ad : Nat → Nat} (C : CX G A RL cL_holds 7 p s m args c) (hr : meth.sig.returnType = (some .boolean)) (hk : meth.locks = false) {rr : Int32 × KS} (c197 : KS → Int32 → Int64 → Int32 → Int32 → Option (Int32 × KS)) (K197 : ∀ (a : KS) (v1 : Int32) (v2 : Int64) (v4 : Int32) (v5 : Int32), c197 a v1 v2 v4 v5 = some rr → J p l e (RM 11) s m args below meth c G A 7 (MQ below (QV (some (.int rr.1)) (PosW G ad rr.2 b A) A) args s 0 0 A) 0 0 ad a b 197 [(0, .ref (ad 0)), (1, .int v1), (2, .long v2), (4, .int v4), (5, .int v5)] []) (a : KS) (v1 : Int32) (v2 : Int64) (v5 : Int32) (s0 : Int32) (s1 : Int32) (s2 : Int32) (hf : f_L_holds_296 c197 a v1 v2 v5 s0 s1 s2 = some rr) : J p l e (RM 11) s m args below meth c G A 7 (MQ below (QV (some (.int rr.1)) (PosW G ad rr.2 b A) A) args s 0 0 A) 0 0 ad a b 296 [(0, .ref (ad 0)), (1, .int v1), (2, .long v2), (5, .int v5)] [.int s2, .int s1, .int s0] := by
  unfold f_L_holds_296 at hf
  refine j_iadd C dL_holds_296 ?_
  refine j_icmp_ne C 334 dL_holds_297 (by decide) hf (fun y1 hf => ?_) (fun y1 hf => ?_)
  · refine j_sub [0, 1, 2, 3] rfl ?_
    exact w_L_holds_334 C hr hk c197 K197 a v1 v2 v5 hf
  · refine j_aload_n C 0 rfl dL_holds_300 ?_
    refine j_iload C 3 rfl dL_holds_301 ?_
    obtain ⟨z2, h3, hf⟩ := bnd_some hf
    obtain ⟨y4, hf⟩ := gd_some hf
    have y4 := of_decide_eq_true y4
    refine j_callV (q := 0) (As := [.int v5]) (rest := []) C (k_X8_kind h3 y4) cw_X8_kind ml_L_19 m_0 ce_0 rfl rfl ⟨Nat.le_of_ble_eq_true rfl, Nat.le_of_ble_eq_true rfl⟩ ⟨Nat.le_of_ble_eq_true rfl, Nat.le_of_ble_eq_true rfl⟩ rfl (Nat.le_of_ble_eq_true rfl) dL_holds_303 ?_
    refine j_iconst (v := 2) C (by decide) dL_holds_306 ?_
    refine j_icmp_ne C 330 dL_holds_307 (by decide) hf (fun y5 hf => ?_) (fun y5 hf => ?_)
    · refine j_sub [0, 1, 2, 3] rfl ?_
      exact w_L_holds_330 C hr hk c197 K197 a v1 v2 v5 hf
    · refine j_aload_n C 0 rfl dL_holds_310 ?_
      refine j_iload C 3 rfl dL_holds_311 ?_
      obtain ⟨z6, h7, hf⟩ := bnd_some hf
      obtain ⟨y8, hf⟩ := gd_some hf
      have y8 := of_decide_eq_true y8
      refine j_callV (q := 0) (As := [.int v5]) (rest := []) C (k_X8_value h7 y8) cw_X8_value ml_L_23 m_0 ce_0 rfl rfl ⟨Nat.le_of_ble_eq_true rfl, Nat.le_of_ble_eq_true rfl⟩ ⟨Nat.le_of_ble_eq_true rfl, Nat.le_of_ble_eq_true rfl⟩ rfl (Nat.le_of_ble_eq_true rfl) dL_holds_313 ?_
      refine j_if_lt C 334 dL_holds_316 (by decide) hf (fun y9 hf => ?_) (fun y9 hf => ?_)
      · refine j_sub [0, 1, 2, 3] rfl ?_
        exact w_L_holds_334 C hr hk c197 K197 a v1 v2 v5 hf
      · refine j_aload_n C 0 rfl dL_holds_319 ?_
        refine j_iload C 3 rfl dL_holds_320 ?_
        obtain ⟨z10, h11, hf⟩ := bnd_some hf
        obtain ⟨y12, hf⟩ := gd_some hf
        have y12 := of_decide_eq_true y12
        refine j_callV (q := 0) (As := [.int v5]) (rest := []) C (k_X8_value h11 y12) cw_X8_value ml_L_23 m_0 ce_0 rfl rfl ⟨Nat.le_of_ble_eq_true rfl, Nat.le_of_ble_eq_true rfl⟩ ⟨Nat.le_of_ble_eq_true rfl, Nat.le_of_ble_eq_true rfl⟩ rfl (Nat.le_of_ble_eq_true rfl) dL_holds_322 ?_
        refine j_bipush (v := 9) C (by decide) dL_holds_325 ?_
        refine j_icmp_ge C 334 dL_holds_327 (by decide) hf (fun y13 hf => ?_) (fun y13 hf => ?_)
        · refine j_sub [0, 1, 2, 3] rfl ?_
          exact w_L_holds_334 C hr hk c197 K197 a v1 v2 v5 hf
        · refine j_sub [0, 1, 2, 3] rfl ?_
          exact w_L_holds_330 C hr hk c197 K197 a v1 v2 v5 hf
set_option maxRecDepth 100000 in
set_option maxHeartbeats 4000000 in
theorem w_L_holds_437 {b : MS} {p : Program} {l : Launch} {e : Env} {s : State} {m : MethodId} {args : Array Value} {below : List Frame} {meth : Method} {c : Code} {G : GT} {A : Nat → Prop} {ad : Nat → Nat} (C : CX G A RL cL_holds 7 p s m args c) (hr : meth.sig.returnType = (some .boolean)) (hk : meth.locks = false) {rr : Int32 × KS}   (a : KS) (v5 : Int32) (s0 : Int32) (s1 : Int32) (hf : f_L_holds_437 a v5 s0 s1 = some rr) : J p l e (RM 11) s m args below meth c G A 7 (MQ below (QV (some (.int rr.1)) (PosW G ad rr.2 b A) A) args s 0 0 A) 0 0 ad a b 437 [(5, .int v5)] [.int s1, .int s0] := by
  unfold f_L_holds_437 at hf
  refine j_icmp_ne C 460 dL_holds_437 (by decide) hf (fun y1 hf => ?_) (fun y1 hf => ?_)
  · refine j_iconst (v := 0) C (by decide) dL_holds_460 ?_
    obtain rfl := Option.some.inj hf
    exact j_zret C hr hk (by decide) ⟨Nat.le_of_ble_eq_true rfl, Nat.le_of_ble_eq_true rfl⟩ rfl dL_holds_461
  · refine j_iload C 0 rfl dL_holds_440 ?_
    refine j_sipush (v := -999) C (by decide) dL_holds_442 ?_
    refine j_icmp_lt C 460 dL_holds_445 (by decide) hf (fun y2 hf => ?_) (fun y2 hf => ?_)
    · refine j_iconst (v := 0) C (by decide) dL_holds_460 ?_
      obtain rfl := Option.some.inj hf
      exact j_zret C hr hk (by decide) ⟨Nat.le_of_ble_eq_true rfl, Nat.le_of_ble_eq_true rfl⟩ rfl dL_holds_461
    · refine j_iload C 0 rfl dL_holds_448 ?_
      refine j_sipush (v := 999) C (by decide) dL_holds_450 ?_
      refine j_icmp_gt C 460 dL_holds_453 (by decide) hf (fun y3 hf => ?_) (fun y3 hf => ?_)
      · refine j_iconst (v := 0) C (by decide) dL_holds_460 ?_
        obtain rfl := Option.some.inj hf
        exact j_zret C hr hk (by decide) ⟨Nat.le_of_ble_eq_true rfl, Nat.le_of_ble_eq_true rfl⟩ rfl dL_holds_461
      · refine j_iconst (v := 1) C (by decide) dL_holds_456 ?_
        refine j_goto C 461 dL_holds_457 (by decide) ?_
        obtain rfl := Option.some.inj hf
        exact j_zret C hr hk (by decide) ⟨Nat.le_of_ble_eq_true rfl, Nat.le_of_ble_eq_true rfl⟩ rfl dL_holds_461
set_option maxRecDepth 100000 in
set_option maxHeartbeats 4000000 in
theorem w_L_holds_197 {b : MS} {p : Program} {l : Launch} {e : Env} {s : State} {m : MethodId} {args : Array Value} {below : List Frame} {meth : Method} {c : Code} {G : GT} {A : Nat → Prop} {ad : Nat → Nat} (C : CX G A RL cL_holds 7 p s m args c) (hr : meth.sig.returnType = (some .boolean)) (hk : meth.locks = false) {rr : Int32 × KS} (c197 : KS → Int32 → Int64 → Int32 → Int32 → Option (Int32 × KS)) (K197 : ∀ (a : KS) (v1 : Int32) (v2 : Int64) (v4 : Int32) (v5 : Int32), c197 a v1 v2 v4 v5 = some rr → J p l e (RM 11) s m args below meth c G A 7 (MQ below (QV (some (.int rr.1)) (PosW G ad rr.2 b A) A) args s 0 0 A) 0 0 ad a b 197 [(0, .ref (ad 0)), (1, .int v1), (2, .long v2), (4, .int v4), (5, .int v5)] []) (a : KS) (v1 : Int32) (v2 : Int64) (v4 : Int32) (v5 : Int32) (hf : f_L_holds_197 c197 a v1 v2 v4 v5 = some rr) : J p l e (RM 11) s m args below meth c G A 7 (MQ below (QV (some (.int rr.1)) (PosW G ad rr.2 b A) A) args s 0 0 A) 0 0 ad a b 197 [(0, .ref (ad 0)), (1, .int v1), (2, .long v2), (4, .int v4), (5, .int v5)] [] := by
  unfold f_L_holds_197 at hf
  refine j_iload C 4 rfl dL_holds_197 ?_
  refine j_aload_n C 0 rfl dL_holds_199 ?_
  obtain ⟨z1, h2, hf⟩ := bnd_some hf
  refine j_callV (q := 0) (As := []) (rest := [.int v5]) C (k_X8_items h2) cw_X8_items ml_L_11 m_0 ce_0 rfl rfl ⟨Nat.le_of_ble_eq_true rfl, Nat.le_of_ble_eq_true rfl⟩ ⟨Nat.le_of_ble_eq_true rfl, Nat.le_of_ble_eq_true rfl⟩ rfl (Nat.le_of_ble_eq_true rfl) dL_holds_200 ?_
  refine j_icmp_ge C 343 dL_holds_203 (by decide) hf (fun y4 hf => ?_) (fun y4 hf => ?_)
  · refine j_aload_n C 0 rfl dL_holds_343 ?_
    refine j_iload_n C 1 rfl dL_holds_344 ?_
    obtain ⟨z5, h6, hf⟩ := bnd_some hf
    obtain ⟨y7, hf⟩ := gd_some hf
    have y7 := of_decide_eq_true y7
    refine j_callV (q := 0) (As := [.int v1]) (rest := []) C (k_X8_ifTurned h6 y7) cw_X8_ifTurned ml_L_97 m_0 ce_0 rfl rfl ⟨Nat.le_of_ble_eq_true rfl, Nat.le_of_ble_eq_true rfl⟩ ⟨Nat.le_of_ble_eq_true rfl, Nat.le_of_ble_eq_true rfl⟩ rfl (Nat.le_of_ble_eq_true rfl) dL_holds_345 ?_
    refine j_istore (lv' := [(5, .int z5.2), (0, .ref (ad 0)), (1, .int v1), (2, .long v2), (4, .int v4)]) C dL_holds_348 (by decide) rfl ?_
    refine j_iload C 4 rfl dL_holds_350 ?_
    refine j_if_eq C 460 dL_holds_352 (by decide) hf (fun y8 hf => ?_) (fun y8 hf => ?_)
    · refine j_iconst (v := 0) C (by decide) dL_holds_460 ?_
      obtain rfl := Option.some.inj hf
      exact j_zret C hr hk (by decide) ⟨Nat.le_of_ble_eq_true rfl, Nat.le_of_ble_eq_true rfl⟩ rfl dL_holds_461
    · refine j_aload_n C 1 rfl dL_holds_355 ?_
      refine j_iconst (v := 0) C (by decide) dL_holds_356 ?_
      obtain ⟨z9, h10, hf⟩ := bnd_some hf
      obtain ⟨y11, hf⟩ := gd_some hf
      have y11 := of_decide_eq_true y11
      refine j_callV (q := 0) (As := [.int 0]) (rest := []) C (k_X8_menuOf h10 y11) cw_X8_menuOf ml_L_35 m_0 ce_0 rfl rfl ⟨Nat.le_of_ble_eq_true rfl, Nat.le_of_ble_eq_true rfl⟩ ⟨Nat.le_of_ble_eq_true rfl, Nat.le_of_ble_eq_true rfl⟩ rfl (Nat.le_of_ble_eq_true rfl) dL_holds_357 ?_
      refine j_iconst (v := -1) C (by decide) dL_holds_360 ?_
      refine j_icmp_ne C 460 dL_holds_361 (by decide) hf (fun y12 hf => ?_) (fun y12 hf => ?_)
      · refine j_iconst (v := 0) C (by decide) dL_holds_460 ?_
        obtain rfl := Option.some.inj hf
        exact j_zret C hr hk (by decide) ⟨Nat.le_of_ble_eq_true rfl, Nat.le_of_ble_eq_true rfl⟩ rfl dL_holds_461
      · refine j_aload_n C 1 rfl dL_holds_364 ?_
        refine j_iconst (v := 0) C (by decide) dL_holds_365 ?_
        obtain ⟨z13, h14, hf⟩ := bnd_some hf
        obtain ⟨y15, hf⟩ := gd_some hf
        have y15 := of_decide_eq_true y15
        refine j_callV (q := 0) (As := [.int 0]) (rest := []) C (k_X8_pressesTo h14 y15) cw_X8_pressesTo ml_L_26 m_0 ce_0 rfl rfl ⟨Nat.le_of_ble_eq_true rfl, Nat.le_of_ble_eq_true rfl⟩ ⟨Nat.le_of_ble_eq_true rfl, Nat.le_of_ble_eq_true rfl⟩ rfl (Nat.le_of_ble_eq_true rfl) dL_holds_366 ?_
        refine j_if_ne C 460 dL_holds_369 (by decide) hf (fun y16 hf => ?_) (fun y16 hf => ?_)
        · refine j_iconst (v := 0) C (by decide) dL_holds_460 ?_
          obtain rfl := Option.some.inj hf
          exact j_zret C hr hk (by decide) ⟨Nat.le_of_ble_eq_true rfl, Nat.le_of_ble_eq_true rfl⟩ rfl dL_holds_461
        · refine j_aload_n C 1 rfl dL_holds_372 ?_
          refine j_iconst (v := 0) C (by decide) dL_holds_373 ?_
          obtain ⟨z17, h18, hf⟩ := bnd_some hf
          obtain ⟨y19, hf⟩ := gd_some hf
          have y19 := of_decide_eq_true y19
          refine j_callV (q := 0) (As := [.int 0]) (rest := []) C (k_X8_detentsTo h18 y19) cw_X8_detentsTo ml_L_87 m_0 ce_0 rfl rfl ⟨Nat.le_of_ble_eq_true rfl, Nat.le_of_ble_eq_true rfl⟩ ⟨Nat.le_of_ble_eq_true rfl, Nat.le_of_ble_eq_true rfl⟩ rfl (Nat.le_of_ble_eq_true rfl) dL_holds_374 ?_
          refine j_if_ne C 460 dL_holds_377 (by decide) hf (fun y20 hf => ?_) (fun y20 hf => ?_)
          · refine j_iconst (v := 0) C (by decide) dL_holds_460 ?_
            obtain rfl := Option.some.inj hf
            exact j_zret C hr hk (by decide) ⟨Nat.le_of_ble_eq_true rfl, Nat.le_of_ble_eq_true rfl⟩ rfl dL_holds_461
          · refine j_aload_n C 1 rfl dL_holds_380 ?_
            refine j_iconst (v := 0) C (by decide) dL_holds_381 ?_
            obtain ⟨z21, h22, hf⟩ := bnd_some hf
            obtain ⟨y23, hf⟩ := gd_some hf
            have y23 := of_decide_eq_true y23
            refine j_callV (q := 0) (As := [.int 0]) (rest := []) C (k_X8_codesTo h22 y23) cw_X8_codesTo ml_L_90 m_0 ce_0 rfl rfl ⟨Nat.le_of_ble_eq_true rfl, Nat.le_of_ble_eq_true rfl⟩ ⟨Nat.le_of_ble_eq_true rfl, Nat.le_of_ble_eq_true rfl⟩ rfl (Nat.le_of_ble_eq_true rfl) dL_holds_382 ?_
            refine j_if_ne C 460 dL_holds_385 (by decide) hf (fun y24 hf => ?_) (fun y24 hf => ?_)
            · refine j_iconst (v := 0) C (by decide) dL_holds_460 ?_
              obtain rfl := Option.some.inj hf
              exact j_zret C hr hk (by decide) ⟨Nat.le_of_ble_eq_true rfl, Nat.le_of_ble_eq_true rfl⟩ rfl dL_holds_461
            · refine j_aload_n C 1 rfl dL_holds_388 ?_
              obtain ⟨z25, h26, hf⟩ := bnd_some hf
              refine j_callV (q := 0) (As := []) (rest := []) C (k_X8_digest h26) cw_X8_digest ml_L_51 m_0 ce_0 rfl rfl ⟨Nat.le_of_ble_eq_true rfl, Nat.le_of_ble_eq_true rfl⟩ ⟨Nat.le_of_ble_eq_true rfl, Nat.le_of_ble_eq_true rfl⟩ rfl (Nat.le_of_ble_eq_true rfl) dL_holds_389 ?_
              refine j_lload_n C 3 rfl dL_holds_392 ?_
              refine j_lcmp C dL_holds_393 ?_
              refine j_if_ne C 460 dL_holds_394 (by decide) hf (fun y30 hf => ?_) (fun y30 hf => ?_)
              · refine j_iconst (v := 0) C (by decide) dL_holds_460 ?_
                obtain rfl := Option.some.inj hf
                exact j_zret C hr hk (by decide) ⟨Nat.le_of_ble_eq_true rfl, Nat.le_of_ble_eq_true rfl⟩ rfl dL_holds_461
              · refine j_aload_n C 1 rfl dL_holds_397 ?_
                refine j_iconst (v := 0) C (by decide) dL_holds_398 ?_
                obtain ⟨z31, h32, hf⟩ := bnd_some hf
                obtain ⟨y33, hf⟩ := gd_some hf
                have y33 := of_decide_eq_true y33
                refine j_callV (q := 0) (As := [.int 0]) (rest := []) C (k_X8_ifTurned h32 y33) cw_X8_ifTurned ml_L_97 m_0 ce_0 rfl rfl ⟨Nat.le_of_ble_eq_true rfl, Nat.le_of_ble_eq_true rfl⟩ ⟨Nat.le_of_ble_eq_true rfl, Nat.le_of_ble_eq_true rfl⟩ rfl (Nat.le_of_ble_eq_true rfl) dL_holds_399 ?_
                refine j_aload_n C 1 rfl dL_holds_402 ?_
                obtain ⟨z34, h35, hf⟩ := bnd_some hf
                refine j_callV (q := 0) (As := []) (rest := [.int z31.2]) C (k_X8_mode h35) cw_X8_mode ml_L_61 m_0 ce_0 rfl rfl ⟨Nat.le_of_ble_eq_true rfl, Nat.le_of_ble_eq_true rfl⟩ ⟨Nat.le_of_ble_eq_true rfl, Nat.le_of_ble_eq_true rfl⟩ rfl (Nat.le_of_ble_eq_true rfl) dL_holds_403 ?_
                refine j_if_ne C 416 dL_holds_406 (by decide) hf (fun y37 hf => ?_) (fun y37 hf => ?_)
                · refine j_aload_n C 1 rfl dL_holds_416 ?_
                  obtain ⟨z38, h39, hf⟩ := bnd_some hf
                  refine j_callV (q := 0) (As := []) (rest := [.int z31.2]) C (k_X8_mode h39) cw_X8_mode ml_L_61 m_0 ce_0 rfl rfl ⟨Nat.le_of_ble_eq_true rfl, Nat.le_of_ble_eq_true rfl⟩ ⟨Nat.le_of_ble_eq_true rfl, Nat.le_of_ble_eq_true rfl⟩ rfl (Nat.le_of_ble_eq_true rfl) dL_holds_417 ?_
                  refine j_iconst (v := 1) C (by decide) dL_holds_420 ?_
                  refine j_icmp_ne C 431 dL_holds_421 (by decide) hf (fun y41 hf => ?_) (fun y41 hf => ?_)
                  · refine j_aload_n C 1 rfl dL_holds_431 ?_
                    refine j_bipush (v := 10) C (by decide) dL_holds_432 ?_
                    obtain ⟨z42, h43, hf⟩ := bnd_some hf
                    obtain ⟨y44, hf⟩ := gd_some hf
                    have y44 := of_decide_eq_true y44
                    refine j_callV (q := 0) (As := [.int 10]) (rest := [.int z31.2]) C (k_X8_ifTurned h43 y44) cw_X8_ifTurned ml_L_97 m_0 ce_0 rfl rfl ⟨Nat.le_of_ble_eq_true rfl, Nat.le_of_ble_eq_true rfl⟩ ⟨Nat.le_of_ble_eq_true rfl, Nat.le_of_ble_eq_true rfl⟩ rfl (Nat.le_of_ble_eq_true rfl) dL_holds_434 ?_
                    refine j_sub [0] rfl ?_
                    exact w_L_holds_437 C hr hk z25.2 z5.2 z31.2 z42.2 hf
                  · refine j_aload_n C 1 rfl dL_holds_424 ?_
                    obtain ⟨z45, h46, hf⟩ := bnd_some hf
                    refine j_callV (q := 0) (As := []) (rest := [.int z31.2]) C (k_X8_draft h46) cw_X8_draft ml_L_64 m_0 ce_0 rfl rfl ⟨Nat.le_of_ble_eq_true rfl, Nat.le_of_ble_eq_true rfl⟩ ⟨Nat.le_of_ble_eq_true rfl, Nat.le_of_ble_eq_true rfl⟩ rfl (Nat.le_of_ble_eq_true rfl) dL_holds_425 ?_
                    refine j_goto C 437 dL_holds_428 (by decide) ?_
                    refine j_sub [0] rfl ?_
                    exact w_L_holds_437 C hr hk z25.2 z5.2 z31.2 z45 hf
                · refine j_aload_n C 1 rfl dL_holds_409 ?_
                  obtain ⟨z48, h49, hf⟩ := bnd_some hf
                  refine j_callV (q := 0) (As := []) (rest := [.int z31.2]) C (k_X8_cursor h49) cw_X8_cursor ml_L_78 m_0 ce_0 rfl rfl ⟨Nat.le_of_ble_eq_true rfl, Nat.le_of_ble_eq_true rfl⟩ ⟨Nat.le_of_ble_eq_true rfl, Nat.le_of_ble_eq_true rfl⟩ rfl (Nat.le_of_ble_eq_true rfl) dL_holds_410 ?_
                  refine j_goto C 437 dL_holds_413 (by decide) ?_
                  refine j_sub [0] rfl ?_
                  exact w_L_holds_437 C hr hk z25.2 z5.2 z31.2 z48 hf
  · refine j_aload_n C 0 rfl dL_holds_206 ?_
    refine j_iload C 4 rfl dL_holds_207 ?_
    obtain ⟨z51, h52, hf⟩ := bnd_some hf
    obtain ⟨y53, hf⟩ := gd_some hf
    have y53 := of_decide_eq_true y53
    refine j_callV (q := 0) (As := [.int v5]) (rest := []) C (k_X8_menuOf h52 y53) cw_X8_menuOf ml_L_35 m_0 ce_0 rfl rfl ⟨Nat.le_of_ble_eq_true rfl, Nat.le_of_ble_eq_true rfl⟩ ⟨Nat.le_of_ble_eq_true rfl, Nat.le_of_ble_eq_true rfl⟩ rfl (Nat.le_of_ble_eq_true rfl) dL_holds_209 ?_
    refine j_istore (lv' := [(6, .int z51.2), (0, .ref (ad 0)), (1, .int v1), (2, .long v2), (4, .int v4), (5, .int v5)]) C dL_holds_212 (by decide) rfl ?_
    refine j_iload C 4 rfl dL_holds_214 ?_
    refine j_if_eq C 334 dL_holds_216 (by decide) hf (fun y54 hf => ?_) (fun y54 hf => ?_)
    · refine j_sub [1, 2, 3, 5] rfl ?_
      exact w_L_holds_334 C hr hk c197 K197 a v1 v2 v5 hf
    · refine j_aload_n C 1 rfl dL_holds_219 ?_
      refine j_iload C 0 rfl dL_holds_220 ?_
      obtain ⟨z55, h56, hf⟩ := bnd_some hf
      obtain ⟨y57, hf⟩ := gd_some hf
      have y57 := of_decide_eq_true y57
      refine j_callV (q := 0) (As := [.int z51.2]) (rest := []) C (k_X8_kind h56 y57) cw_X8_kind ml_L_19 m_0 ce_0 rfl rfl ⟨Nat.le_of_ble_eq_true rfl, Nat.le_of_ble_eq_true rfl⟩ ⟨Nat.le_of_ble_eq_true rfl, Nat.le_of_ble_eq_true rfl⟩ rfl (Nat.le_of_ble_eq_true rfl) dL_holds_222 ?_
      refine j_if_ne C 334 dL_holds_225 (by decide) hf (fun y58 hf => ?_) (fun y58 hf => ?_)
      · refine j_sub [1, 2, 3, 5] rfl ?_
        exact w_L_holds_334 C hr hk c197 K197 a v1 v2 v5 hf
      · refine j_aload_n C 1 rfl dL_holds_228 ?_
        refine j_iload C 5 rfl dL_holds_229 ?_
        obtain ⟨z59, h60, hf⟩ := bnd_some hf
        obtain ⟨y61, hf⟩ := gd_some hf
        have y61 := of_decide_eq_true y61
        refine j_callV (q := 0) (As := [.int v5]) (rest := []) C (k_X8_pressesTo h60 y61) cw_X8_pressesTo ml_L_26 m_0 ce_0 rfl rfl ⟨Nat.le_of_ble_eq_true rfl, Nat.le_of_ble_eq_true rfl⟩ ⟨Nat.le_of_ble_eq_true rfl, Nat.le_of_ble_eq_true rfl⟩ rfl (Nat.le_of_ble_eq_true rfl) dL_holds_231 ?_
        refine j_aload_n C 1 rfl dL_holds_234 ?_
        refine j_iload C 0 rfl dL_holds_235 ?_
        obtain ⟨z62, h63, hf⟩ := bnd_some hf
        obtain ⟨y64, hf⟩ := gd_some hf
        have y64 := of_decide_eq_true y64
        refine j_callV (q := 0) (As := [.int z51.2]) (rest := [.int z59.2]) C (k_X8_pressesTo h63 y64) cw_X8_pressesTo ml_L_26 m_0 ce_0 rfl rfl ⟨Nat.le_of_ble_eq_true rfl, Nat.le_of_ble_eq_true rfl⟩ ⟨Nat.le_of_ble_eq_true rfl, Nat.le_of_ble_eq_true rfl⟩ rfl (Nat.le_of_ble_eq_true rfl) dL_holds_237 ?_
        refine j_iconst (v := 1) C (by decide) dL_holds_240 ?_
        refine j_iadd C dL_holds_241 ?_
        refine j_icmp_ne C 334 dL_holds_242 (by decide) hf (fun y65 hf => ?_) (fun y65 hf => ?_)
        · refine j_sub [1, 2, 3, 5] rfl ?_
          exact w_L_holds_334 C hr hk c197 K197 a v1 v2 v5 hf
        · refine j_aload_n C 1 rfl dL_holds_245 ?_
          refine j_iload C 5 rfl dL_holds_246 ?_
          obtain ⟨z66, h67, hf⟩ := bnd_some hf
          obtain ⟨y68, hf⟩ := gd_some hf
          have y68 := of_decide_eq_true y68
          refine j_callV (q := 0) (As := [.int v5]) (rest := []) C (k_X8_pressesTo h67 y68) cw_X8_pressesTo ml_L_26 m_0 ce_0 rfl rfl ⟨Nat.le_of_ble_eq_true rfl, Nat.le_of_ble_eq_true rfl⟩ ⟨Nat.le_of_ble_eq_true rfl, Nat.le_of_ble_eq_true rfl⟩ rfl (Nat.le_of_ble_eq_true rfl) dL_holds_248 ?_
          refine j_iconst (v := 4) C (by decide) dL_holds_251 ?_
          refine j_icmp_gt C 334 dL_holds_252 (by decide) hf (fun y69 hf => ?_) (fun y69 hf => ?_)
          · refine j_sub [1, 2, 3, 5] rfl ?_
            exact w_L_holds_334 C hr hk c197 K197 a v1 v2 v5 hf
          · refine j_aload_n C 1 rfl dL_holds_255 ?_
            refine j_iload C 5 rfl dL_holds_256 ?_
            obtain ⟨z70, h71, hf⟩ := bnd_some hf
            obtain ⟨y72, hf⟩ := gd_some hf
            have y72 := of_decide_eq_true y72
            refine j_callV (q := 0) (As := [.int v5]) (rest := []) C (k_X8_detentsTo h71 y72) cw_X8_detentsTo ml_L_87 m_0 ce_0 rfl rfl ⟨Nat.le_of_ble_eq_true rfl, Nat.le_of_ble_eq_true rfl⟩ ⟨Nat.le_of_ble_eq_true rfl, Nat.le_of_ble_eq_true rfl⟩ rfl (Nat.le_of_ble_eq_true rfl) dL_holds_258 ?_
            refine j_aload_n C 1 rfl dL_holds_261 ?_
            refine j_iload C 0 rfl dL_holds_262 ?_
            obtain ⟨z73, h74, hf⟩ := bnd_some hf
            obtain ⟨y75, hf⟩ := gd_some hf
            have y75 := of_decide_eq_true y75
            refine j_callV (q := 0) (As := [.int z51.2]) (rest := [.int z70.2]) C (k_X8_detentsTo h74 y75) cw_X8_detentsTo ml_L_87 m_0 ce_0 rfl rfl ⟨Nat.le_of_ble_eq_true rfl, Nat.le_of_ble_eq_true rfl⟩ ⟨Nat.le_of_ble_eq_true rfl, Nat.le_of_ble_eq_true rfl⟩ rfl (Nat.le_of_ble_eq_true rfl) dL_holds_264 ?_
            refine j_icmp_lt C 334 dL_holds_267 (by decide) hf (fun y76 hf => ?_) (fun y76 hf => ?_)
            · refine j_sub [1, 2, 3, 5] rfl ?_
              exact w_L_holds_334 C hr hk c197 K197 a v1 v2 v5 hf
            · refine j_aload_n C 1 rfl dL_holds_270 ?_
              refine j_iload C 5 rfl dL_holds_271 ?_
              obtain ⟨z77, h78, hf⟩ := bnd_some hf
              obtain ⟨y79, hf⟩ := gd_some hf
              have y79 := of_decide_eq_true y79
              refine j_callV (q := 0) (As := [.int v5]) (rest := []) C (k_X8_codesTo h78 y79) cw_X8_codesTo ml_L_90 m_0 ce_0 rfl rfl ⟨Nat.le_of_ble_eq_true rfl, Nat.le_of_ble_eq_true rfl⟩ ⟨Nat.le_of_ble_eq_true rfl, Nat.le_of_ble_eq_true rfl⟩ rfl (Nat.le_of_ble_eq_true rfl) dL_holds_273 ?_
              refine j_aload_n C 1 rfl dL_holds_276 ?_
              refine j_iload C 0 rfl dL_holds_277 ?_
              obtain ⟨z80, h81, hf⟩ := bnd_some hf
              obtain ⟨y82, hf⟩ := gd_some hf
              have y82 := of_decide_eq_true y82
              refine j_callV (q := 0) (As := [.int z51.2]) (rest := [.int z77.2]) C (k_X8_codesTo h81 y82) cw_X8_codesTo ml_L_90 m_0 ce_0 rfl rfl ⟨Nat.le_of_ble_eq_true rfl, Nat.le_of_ble_eq_true rfl⟩ ⟨Nat.le_of_ble_eq_true rfl, Nat.le_of_ble_eq_true rfl⟩ rfl (Nat.le_of_ble_eq_true rfl) dL_holds_279 ?_
              refine j_aload_n C 1 rfl dL_holds_282 ?_
              refine j_iload C 5 rfl dL_holds_283 ?_
              obtain ⟨z83, h84, hf⟩ := bnd_some hf
              obtain ⟨y85, hf⟩ := gd_some hf
              have y85 := of_decide_eq_true y85
              refine j_callV (q := 0) (As := [.int v5]) (rest := [.int z80.2, .int z77.2]) C (k_X8_isClosed h84 y85) cw_X8_isClosed ml_L_93 m_0 ce_0 rfl rfl ⟨Nat.le_of_ble_eq_true rfl, Nat.le_of_ble_eq_true rfl⟩ ⟨Nat.le_of_ble_eq_true rfl, Nat.le_of_ble_eq_true rfl⟩ rfl (Nat.le_of_ble_eq_true rfl) dL_holds_285 ?_
              refine j_if_eq C 295 dL_holds_288 (by decide) hf (fun y86 hf => ?_) (fun y86 hf => ?_)
              · refine j_iconst (v := 0) C (by decide) dL_holds_295 ?_
                refine j_sub [1, 2, 3, 5] rfl ?_
                exact w_L_holds_296 C hr hk c197 K197 a v1 v2 v5 z77.2 z80.2 0 hf
              · refine j_iconst (v := 1) C (by decide) dL_holds_291 ?_
                refine j_goto C 296 dL_holds_292 (by decide) ?_
                refine j_sub [1, 2, 3, 5] rfl ?_
                exact w_L_holds_296 C hr hk c197 K197 a v1 v2 v5 z77.2 z80.2 1 hf
theorem wl_L_holds_197 {b : MS} {p : Program} {l : Launch} {e : Env} {s : State} {m : MethodId} {args : Array Value} {below : List Frame} {meth : Method} {c : Code} {G : GT} {A : Nat → Prop} {ad : Nat → Nat} (C : CX G A RL cL_holds 7 p s m args c) (hr : meth.sig.returnType = (some .boolean)) (hk : meth.locks = false) {rr : Int32 × KS} (fuel : Nat)   : ∀ (a : KS) (v1 : Int32) (v2 : Int64) (v4 : Int32) (v5 : Int32), l_L_holds_197 fuel  a v1 v2 v4 v5 = some rr → J p l e (RM 11) s m args below meth c G A 7 (MQ below (QV (some (.int rr.1)) (PosW G ad rr.2 b A) A) args s 0 0 A) 0 0 ad a b 197 [(0, .ref (ad 0)), (1, .int v1), (2, .long v2), (4, .int v4), (5, .int v5)] [] := by
  induction fuel with
  | zero => intro a v1 v2 v4 v5 hf; cases hf
  | succ n ih =>
    intro a v1 v2 v4 v5 hf
    have hf : f_L_holds_197 (l_L_holds_197 n ) a v1 v2 v4 v5 = some rr := hf
    exact w_L_holds_197 C hr hk (l_L_holds_197 n ) ih a v1 v2 v4 v5 hf
set_option maxRecDepth 100000 in
set_option maxHeartbeats 4000000 in
theorem w_L_holds_131 {b : MS} {p : Program} {l : Launch} {e : Env} {s : State} {m : MethodId} {args : Array Value} {below : List Frame} {meth : Method} {c : Code} {G : GT} {A : Nat → Prop} {ad : Nat → Nat} (C : CX G A RL cL_holds 7 p s m args c) (hr : meth.sig.returnType = (some .boolean)) (hk : meth.locks = false) {rr : Int32 × KS} (c131 : KS → Int32 → Int64 → Int32 → Int32 → Option (Int32 × KS)) (K131 : ∀ (a : KS) (v1 : Int32) (v2 : Int64) (v4 : Int32) (v5 : Int32), c131 a v1 v2 v4 v5 = some rr → J p l e (RM 11) s m args below meth c G A 7 (MQ below (QV (some (.int rr.1)) (PosW G ad rr.2 b A) A) args s 0 0 A) 0 0 ad a b 131 [(0, .ref (ad 0)), (1, .int v1), (2, .long v2), (4, .int v4), (5, .int v5)] []) (a : KS) (v1 : Int32) (v2 : Int64) (v4 : Int32) (v5 : Int32) (hf : f_L_holds_131 c131 a v1 v2 v4 v5 = some rr) : J p l e (RM 11) s m args below meth c G A 7 (MQ below (QV (some (.int rr.1)) (PosW G ad rr.2 b A) A) args s 0 0 A) 0 0 ad a b 131 [(0, .ref (ad 0)), (1, .int v1), (2, .long v2), (4, .int v4), (5, .int v5)] [] := by
  unfold f_L_holds_131 at hf
  refine j_iload C 4 rfl dL_holds_131 ?_
  refine j_bipush (v := 32) C (by decide) dL_holds_133 ?_
  refine j_icmp_ge C 194 dL_holds_135 (by decide) hf (fun y1 hf => ?_) (fun y1 hf => ?_)
  · refine j_iconst (v := 1) C (by decide) dL_holds_194 ?_
    refine j_istore (lv' := [(5, .int 1), (0, .ref (ad 0)), (1, .int v1), (2, .long v2), (4, .int v4)]) C dL_holds_195 (by decide) rfl ?_
    refine j_sub [1, 2, 3, 4, 0] rfl ?_
    exact wl_L_holds_197 C hr hk FU a v1 v2 v4 1 hf
  · refine j_iload C 3 rfl dL_holds_138 ?_
    refine j_if_eq C 185 dL_holds_140 (by decide) hf (fun y2 hf => ?_) (fun y2 hf => ?_)
    · refine j_sub [0, 1, 2, 4] rfl ?_
      exact w_L_holds_185 C hr hk c131 K131 a v1 v2 v5 hf
    · refine j_aload_n C 0 rfl dL_holds_143 ?_
      refine j_iload C 4 rfl dL_holds_144 ?_
      refine j_bipush (v := 16) C (by decide) dL_holds_146 ?_
      refine j_idiv C (by decide) dL_holds_148 ?_
      refine j_iload C 4 rfl dL_holds_149 ?_
      refine j_bipush (v := 16) C (by decide) dL_holds_151 ?_
      refine j_irem C (by decide) dL_holds_153 ?_
      obtain ⟨z5, h6, hf⟩ := bnd_some hf
      obtain ⟨y7, hf⟩ := gd_some hf
      have y7 := of_decide_eq_true y7
      refine j_callV (q := 0) (As := [.int (v5 / 16), .int (v5 - v5 / 16 * 16)]) (rest := []) C (k_X8_display h6 y7) cw_X8_display ml_L_84 m_0 ce_0 rfl rfl ⟨Nat.le_of_ble_eq_true rfl, Nat.le_of_ble_eq_true rfl⟩ ⟨Nat.le_of_ble_eq_true rfl, Nat.le_of_ble_eq_true rfl⟩ rfl (Nat.le_of_ble_eq_true rfl) dL_holds_154 ?_
      refine j_bipush (v := 32) C (by decide) dL_holds_157 ?_
      refine j_icmp_lt C 185 dL_holds_159 (by decide) hf (fun y10 hf => ?_) (fun y10 hf => ?_)
      · refine j_sub [0, 1, 2, 4] rfl ?_
        exact w_L_holds_185 C hr hk c131 K131 z5.2.2 v1 v2 v5 hf
      · refine j_aload_n C 0 rfl dL_holds_162 ?_
        refine j_iload C 4 rfl dL_holds_163 ?_
        refine j_bipush (v := 16) C (by decide) dL_holds_165 ?_
        refine j_idiv C (by decide) dL_holds_167 ?_
        refine j_iload C 4 rfl dL_holds_168 ?_
        refine j_bipush (v := 16) C (by decide) dL_holds_170 ?_
        refine j_irem C (by decide) dL_holds_172 ?_
        obtain ⟨z13, h14, hf⟩ := bnd_some hf
        obtain ⟨y15, hf⟩ := gd_some hf
        have y15 := of_decide_eq_true y15
        refine j_callV (q := 0) (As := [.int (v5 / 16), .int (v5 - v5 / 16 * 16)]) (rest := []) C (k_X8_display h14 y15) cw_X8_display ml_L_84 m_0 ce_0 rfl rfl ⟨Nat.le_of_ble_eq_true rfl, Nat.le_of_ble_eq_true rfl⟩ ⟨Nat.le_of_ble_eq_true rfl, Nat.le_of_ble_eq_true rfl⟩ rfl (Nat.le_of_ble_eq_true rfl) dL_holds_173 ?_
        refine j_bipush (v := 126) C (by decide) dL_holds_176 ?_
        refine j_icmp_gt C 185 dL_holds_178 (by decide) hf (fun y18 hf => ?_) (fun y18 hf => ?_)
        · refine j_sub [0, 1, 2, 4] rfl ?_
          exact w_L_holds_185 C hr hk c131 K131 z13.2.2 v1 v2 v5 hf
        · refine j_iconst (v := 1) C (by decide) dL_holds_181 ?_
          refine j_goto C 186 dL_holds_182 (by decide) ?_
          refine j_sub [0, 1, 2, 4] rfl ?_
          exact w_L_holds_186 C hr hk c131 K131 z13.2.2 v1 v2 v5 1 hf
theorem wl_L_holds_131 {b : MS} {p : Program} {l : Launch} {e : Env} {s : State} {m : MethodId} {args : Array Value} {below : List Frame} {meth : Method} {c : Code} {G : GT} {A : Nat → Prop} {ad : Nat → Nat} (C : CX G A RL cL_holds 7 p s m args c) (hr : meth.sig.returnType = (some .boolean)) (hk : meth.locks = false) {rr : Int32 × KS} (fuel : Nat)   : ∀ (a : KS) (v1 : Int32) (v2 : Int64) (v4 : Int32) (v5 : Int32), l_L_holds_131 fuel  a v1 v2 v4 v5 = some rr → J p l e (RM 11) s m args below meth c G A 7 (MQ below (QV (some (.int rr.1)) (PosW G ad rr.2 b A) A) args s 0 0 A) 0 0 ad a b 131 [(0, .ref (ad 0)), (1, .int v1), (2, .long v2), (4, .int v4), (5, .int v5)] [] := by
  induction fuel with
  | zero => intro a v1 v2 v4 v5 hf; cases hf
  | succ n ih =>
    intro a v1 v2 v4 v5 hf
    have hf : f_L_holds_131 (l_L_holds_131 n ) a v1 v2 v4 v5 = some rr := hf
    exact w_L_holds_131 C hr hk (l_L_holds_131 n ) ih a v1 v2 v4 v5 hf
set_option maxRecDepth 100000 in
set_option maxHeartbeats 4000000 in
theorem w_L_holds_126 {b : MS} {p : Program} {l : Launch} {e : Env} {s : State} {m : MethodId} {args : Array Value} {below : List Frame} {meth : Method} {c : Code} {G : GT} {A : Nat → Prop} {ad : Nat → Nat} (C : CX G A RL cL_holds 7 p s m args c) (hr : meth.sig.returnType = (some .boolean)) (hk : meth.locks = false) {rr : Int32 × KS}   (a : KS) (v1 : Int32) (v2 : Int64) (s0 : Int32) (hf : f_L_holds_126 a v1 v2 s0 = some rr) : J p l e (RM 11) s m args below meth c G A 7 (MQ below (QV (some (.int rr.1)) (PosW G ad rr.2 b A) A) args s 0 0 A) 0 0 ad a b 126 [(0, .ref (ad 0)), (1, .int v1), (2, .long v2)] [.int s0] := by
  unfold f_L_holds_126 at hf
  refine j_istore (lv' := [(4, .int s0), (0, .ref (ad 0)), (1, .int v1), (2, .long v2)]) C dL_holds_126 (by decide) rfl ?_
  refine j_iconst (v := 0) C (by decide) dL_holds_128 ?_
  refine j_istore (lv' := [(5, .int 0), (4, .int s0), (0, .ref (ad 0)), (1, .int v1), (2, .long v2)]) C dL_holds_129 (by decide) rfl ?_
  refine j_sub [2, 3, 4, 1, 0] rfl ?_
  exact wl_L_holds_131 C hr hk FU a v1 v2 s0 0 hf
set_option maxRecDepth 100000 in
set_option maxHeartbeats 4000000 in
theorem w_L_holds_125 {b : MS} {p : Program} {l : Launch} {e : Env} {s : State} {m : MethodId} {args : Array Value} {below : List Frame} {meth : Method} {c : Code} {G : GT} {A : Nat → Prop} {ad : Nat → Nat} (C : CX G A RL cL_holds 7 p s m args c) (hr : meth.sig.returnType = (some .boolean)) (hk : meth.locks = false) {rr : Int32 × KS}   (a : KS) (v1 : Int32) (v2 : Int64) (hf : f_L_holds_125 a v1 v2 = some rr) : J p l e (RM 11) s m args below meth c G A 7 (MQ below (QV (some (.int rr.1)) (PosW G ad rr.2 b A) A) args s 0 0 A) 0 0 ad a b 125 [(0, .ref (ad 0)), (1, .int v1), (2, .long v2)] [] := by
  unfold f_L_holds_125 at hf
  refine j_iconst (v := 0) C (by decide) dL_holds_125 ?_
  refine j_sub [0, 1, 2] rfl ?_
  exact w_L_holds_126 C hr hk a v1 v2 0 hf
set_option maxRecDepth 100000 in
set_option maxHeartbeats 4000000 in
theorem w_L_holds_103 {b : MS} {p : Program} {l : Launch} {e : Env} {s : State} {m : MethodId} {args : Array Value} {below : List Frame} {meth : Method} {c : Code} {G : GT} {A : Nat → Prop} {ad : Nat → Nat} (C : CX G A RL cL_holds 7 p s m args c) (hr : meth.sig.returnType = (some .boolean)) (hk : meth.locks = false) {rr : Int32 × KS}   (a : KS) (v1 : Int32) (v2 : Int64) (s0 : Int32) (hf : f_L_holds_103 a v1 v2 s0 = some rr) : J p l e (RM 11) s m args below meth c G A 7 (MQ below (QV (some (.int rr.1)) (PosW G ad rr.2 b A) A) args s 0 0 A) 0 0 ad a b 103 [(0, .ref (ad 0)), (1, .int v1), (2, .long v2)] [.int s0] := by
  unfold f_L_holds_103 at hf
  refine j_aload_n C 0 rfl dL_holds_103 ?_
  obtain ⟨z1, h2, hf⟩ := bnd_some hf
  refine j_callV (q := 0) (As := []) (rest := [.int s0]) C (k_X8_isHome h2) cw_X8_isHome ml_L_71 m_0 ce_0 rfl rfl ⟨Nat.le_of_ble_eq_true rfl, Nat.le_of_ble_eq_true rfl⟩ ⟨Nat.le_of_ble_eq_true rfl, Nat.le_of_ble_eq_true rfl⟩ rfl (Nat.le_of_ble_eq_true rfl) dL_holds_104 ?_
  refine j_icmp_ne C 125 dL_holds_107 (by decide) hf (fun y4 hf => ?_) (fun y4 hf => ?_)
  · refine j_sub [0, 1, 2] rfl ?_
    exact w_L_holds_125 C hr hk a v1 v2 hf
  · refine j_aload_n C 0 rfl dL_holds_110 ?_
    refine j_aload_n C 0 rfl dL_holds_111 ?_
    obtain ⟨z5, h6, hf⟩ := bnd_some hf
    refine j_callV (q := 0) (As := []) (rest := [.ref (ad 0)]) C (k_X8_shown h6) cw_X8_shown ml_L_75 m_0 ce_0 rfl rfl ⟨Nat.le_of_ble_eq_true rfl, Nat.le_of_ble_eq_true rfl⟩ ⟨Nat.le_of_ble_eq_true rfl, Nat.le_of_ble_eq_true rfl⟩ rfl (Nat.le_of_ble_eq_true rfl) dL_holds_112 ?_
    obtain ⟨z8, h9, hf⟩ := bnd_some hf
    obtain ⟨y10, hf⟩ := gd_some hf
    have y10 := of_decide_eq_true y10
    refine j_callV (q := 0) (As := [.int z5]) (rest := []) C (k_X8_kind h9 y10) cw_X8_kind ml_L_19 m_0 ce_0 rfl rfl ⟨Nat.le_of_ble_eq_true rfl, Nat.le_of_ble_eq_true rfl⟩ ⟨Nat.le_of_ble_eq_true rfl, Nat.le_of_ble_eq_true rfl⟩ rfl (Nat.le_of_ble_eq_true rfl) dL_holds_115 ?_
    refine j_if_ne C 125 dL_holds_118 (by decide) hf (fun y11 hf => ?_) (fun y11 hf => ?_)
    · refine j_sub [0, 1, 2] rfl ?_
      exact w_L_holds_125 C hr hk a v1 v2 hf
    · refine j_iconst (v := 1) C (by decide) dL_holds_121 ?_
      refine j_goto C 126 dL_holds_122 (by decide) ?_
      refine j_sub [0, 1, 2] rfl ?_
      exact w_L_holds_126 C hr hk a v1 v2 1 hf
set_option maxRecDepth 100000 in
set_option maxHeartbeats 4000000 in
theorem w_L_holds_91 {b : MS} {p : Program} {l : Launch} {e : Env} {s : State} {m : MethodId} {args : Array Value} {below : List Frame} {meth : Method} {c : Code} {G : GT} {A : Nat → Prop} {ad : Nat → Nat} (C : CX G A RL cL_holds 7 p s m args c) (hr : meth.sig.returnType = (some .boolean)) (hk : meth.locks = false) {rr : Int32 × KS}   (a : KS) (v1 : Int32) (v2 : Int64) (hf : f_L_holds_91 a v1 v2 = some rr) : J p l e (RM 11) s m args below meth c G A 7 (MQ below (QV (some (.int rr.1)) (PosW G ad rr.2 b A) A) args s 0 0 A) 0 0 ad a b 91 [(0, .ref (ad 0)), (1, .int v1), (2, .long v2)] [] := by
  unfold f_L_holds_91 at hf
  refine j_aload_n C 0 rfl dL_holds_91 ?_
  obtain ⟨z1, h2, hf⟩ := bnd_some hf
  refine j_callV (q := 0) (As := []) (rest := []) C (k_X8_ticksToHome h2) cw_X8_ticksToHome ml_L_81 m_0 ce_0 rfl rfl ⟨Nat.le_of_ble_eq_true rfl, Nat.le_of_ble_eq_true rfl⟩ ⟨Nat.le_of_ble_eq_true rfl, Nat.le_of_ble_eq_true rfl⟩ rfl (Nat.le_of_ble_eq_true rfl) dL_holds_92 ?_
  refine j_if_ne C 102 dL_holds_95 (by decide) hf (fun y4 hf => ?_) (fun y4 hf => ?_)
  · refine j_iconst (v := 0) C (by decide) dL_holds_102 ?_
    refine j_sub [0, 1, 2] rfl ?_
    exact w_L_holds_103 C hr hk a v1 v2 0 hf
  · refine j_iconst (v := 1) C (by decide) dL_holds_98 ?_
    refine j_goto C 103 dL_holds_99 (by decide) ?_
    refine j_sub [0, 1, 2] rfl ?_
    exact w_L_holds_103 C hr hk a v1 v2 1 hf
set_option maxRecDepth 100000 in
set_option maxHeartbeats 4000000 in
theorem w_L_holds_45 {b : MS} {p : Program} {l : Launch} {e : Env} {s : State} {m : MethodId} {args : Array Value} {below : List Frame} {meth : Method} {c : Code} {G : GT} {A : Nat → Prop} {ad : Nat → Nat} (C : CX G A RL cL_holds 7 p s m args c) (hr : meth.sig.returnType = (some .boolean)) (hk : meth.locks = false) {rr : Int32 × KS}   (a : KS) (v1 : Int32) (v2 : Int64) (hf : f_L_holds_45 a v1 v2 = some rr) : J p l e (RM 11) s m args below meth c G A 7 (MQ below (QV (some (.int rr.1)) (PosW G ad rr.2 b A) A) args s 0 0 A) 0 0 ad a b 45 [(0, .ref (ad 0)), (1, .int v1), (2, .long v2)] [] := by
  unfold f_L_holds_45 at hf
  refine j_aload_n C 0 rfl dL_holds_45 ?_
  obtain ⟨z1, h2, hf⟩ := bnd_some hf
  refine j_callV (q := 0) (As := []) (rest := []) C (k_X8_fraction h2) cw_X8_fraction ml_L_67 m_0 ce_0 rfl rfl ⟨Nat.le_of_ble_eq_true rfl, Nat.le_of_ble_eq_true rfl⟩ ⟨Nat.le_of_ble_eq_true rfl, Nat.le_of_ble_eq_true rfl⟩ rfl (Nat.le_of_ble_eq_true rfl) dL_holds_46 ?_
  refine j_dconst0 C dL_holds_49 ?_
  refine j_dcmp C dL_holds_50 ?_
  refine j_if_lt C 125 dL_holds_51 (by decide) hf (fun y4 hf => ?_) (fun y4 hf => ?_)
  · refine j_sub [0, 1, 2] rfl ?_
    exact w_L_holds_125 C hr hk a v1 v2 hf
  · refine j_aload_n C 0 rfl dL_holds_54 ?_
    obtain ⟨z5, h6, hf⟩ := bnd_some hf
    refine j_callV (q := 0) (As := []) (rest := []) C (k_X8_fraction h6) cw_X8_fraction ml_L_67 m_0 ce_0 rfl rfl ⟨Nat.le_of_ble_eq_true rfl, Nat.le_of_ble_eq_true rfl⟩ ⟨Nat.le_of_ble_eq_true rfl, Nat.le_of_ble_eq_true rfl⟩ rfl (Nat.le_of_ble_eq_true rfl) dL_holds_55 ?_
    refine j_dconst1 C dL_holds_58 ?_
    refine j_dcmp C dL_holds_59 ?_
    refine j_if_gt C 125 dL_holds_60 (by decide) hf (fun y8 hf => ?_) (fun y8 hf => ?_)
    · refine j_sub [0, 1, 2] rfl ?_
      exact w_L_holds_125 C hr hk a v1 v2 hf
    · refine j_aload_n C 0 rfl dL_holds_63 ?_
      obtain ⟨z9, h10, hf⟩ := bnd_some hf
      refine j_callV (q := 0) (As := []) (rest := []) C (k_X8_isHome h10) cw_X8_isHome ml_L_71 m_0 ce_0 rfl rfl ⟨Nat.le_of_ble_eq_true rfl, Nat.le_of_ble_eq_true rfl⟩ ⟨Nat.le_of_ble_eq_true rfl, Nat.le_of_ble_eq_true rfl⟩ rfl (Nat.le_of_ble_eq_true rfl) dL_holds_64 ?_
      refine j_if_eq C 91 dL_holds_67 (by decide) hf (fun y12 hf => ?_) (fun y12 hf => ?_)
      · refine j_sub [0, 1, 2] rfl ?_
        exact w_L_holds_91 C hr hk a v1 v2 hf
      · refine j_aload_n C 0 rfl dL_holds_70 ?_
        obtain ⟨z13, h14, hf⟩ := bnd_some hf
        refine j_callV (q := 0) (As := []) (rest := []) C (k_X8_mode h14) cw_X8_mode ml_L_61 m_0 ce_0 rfl rfl ⟨Nat.le_of_ble_eq_true rfl, Nat.le_of_ble_eq_true rfl⟩ ⟨Nat.le_of_ble_eq_true rfl, Nat.le_of_ble_eq_true rfl⟩ rfl (Nat.le_of_ble_eq_true rfl) dL_holds_71 ?_
        refine j_if_ne C 125 dL_holds_74 (by decide) hf (fun y16 hf => ?_) (fun y16 hf => ?_)
        · refine j_sub [0, 1, 2] rfl ?_
          exact w_L_holds_125 C hr hk a v1 v2 hf
        · refine j_aload_n C 0 rfl dL_holds_77 ?_
          obtain ⟨z17, h18, hf⟩ := bnd_some hf
          refine j_callV (q := 0) (As := []) (rest := []) C (k_X8_shown h18) cw_X8_shown ml_L_75 m_0 ce_0 rfl rfl ⟨Nat.le_of_ble_eq_true rfl, Nat.le_of_ble_eq_true rfl⟩ ⟨Nat.le_of_ble_eq_true rfl, Nat.le_of_ble_eq_true rfl⟩ rfl (Nat.le_of_ble_eq_true rfl) dL_holds_78 ?_
          refine j_if_ne C 125 dL_holds_81 (by decide) hf (fun y20 hf => ?_) (fun y20 hf => ?_)
          · refine j_sub [0, 1, 2] rfl ?_
            exact w_L_holds_125 C hr hk a v1 v2 hf
          · refine j_aload_n C 0 rfl dL_holds_84 ?_
            obtain ⟨z21, h22, hf⟩ := bnd_some hf
            refine j_callV (q := 0) (As := []) (rest := []) C (k_X8_cursor h22) cw_X8_cursor ml_L_78 m_0 ce_0 rfl rfl ⟨Nat.le_of_ble_eq_true rfl, Nat.le_of_ble_eq_true rfl⟩ ⟨Nat.le_of_ble_eq_true rfl, Nat.le_of_ble_eq_true rfl⟩ rfl (Nat.le_of_ble_eq_true rfl) dL_holds_85 ?_
            refine j_if_ne C 125 dL_holds_88 (by decide) hf (fun y24 hf => ?_) (fun y24 hf => ?_)
            · refine j_sub [0, 1, 2] rfl ?_
              exact w_L_holds_125 C hr hk a v1 v2 hf
            · refine j_sub [0, 1, 2] rfl ?_
              exact w_L_holds_91 C hr hk a v1 v2 hf
set_option maxRecDepth 100000 in
set_option maxHeartbeats 4000000 in
theorem k_L_holds {l : Launch} {G : GT} {ad : Nat → Nat} {a : KS} {v1 : Int32} {b : MS} {rr : Int32 × KS} (hf : f_L_holds a v1 = some rr) : MT l G yL_holds cL_holds 7 (some .boolean) (RM 11) [.ref (ad 0), .int v1] ad a b (some (.int rr.1)) rr.2 b := by
  refine MT_of (by decide) (Nat.le_of_ble_eq_true rfl) ?_
  intro p e s m args below meth c A C hr hk
  unfold f_L_holds at hf
  refine j_aload_n C 0 rfl dL_holds_0 ?_
  obtain ⟨z1, h2, hf⟩ := bnd_some hf
  refine j_callV (q := 0) (As := []) (rest := []) C (k_X8_digest h2) cw_X8_digest ml_L_51 m_0 ce_0 rfl rfl ⟨Nat.le_of_ble_eq_true rfl, Nat.le_of_ble_eq_true rfl⟩ ⟨Nat.le_of_ble_eq_true rfl, Nat.le_of_ble_eq_true rfl⟩ rfl (Nat.le_of_ble_eq_true rfl) dL_holds_1 ?_
  refine j_lstore_n (i := 2) (lv' := [(2, .long z1.1), (0, .ref (ad 0)), (1, .int v1)]) C dL_holds_4 rfl (by decide) rfl ?_
  refine j_aload_n C 1 rfl dL_holds_5 ?_
  obtain ⟨z6, h7, hf⟩ := bnd_some hf
  refine j_callV (q := 0) (As := []) (rest := []) C (k_X8_logged h7) cw_X8_logged ml_L_55 m_0 ce_0 rfl rfl ⟨Nat.le_of_ble_eq_true rfl, Nat.le_of_ble_eq_true rfl⟩ ⟨Nat.le_of_ble_eq_true rfl, Nat.le_of_ble_eq_true rfl⟩ rfl (Nat.le_of_ble_eq_true rfl) dL_holds_6 ?_
  refine j_bipush (v := 8) C (by decide) dL_holds_9 ?_
  refine j_icmp_gt C 125 dL_holds_11 (by decide) hf (fun y9 hf => ?_) (fun y9 hf => ?_)
  · refine j_sub [1, 2, 0] rfl ?_
    exact w_L_holds_125 C hr hk z1.2 v1 z1.1 hf
  · refine j_aload_n C 1 rfl dL_holds_14 ?_
    obtain ⟨z10, h11, hf⟩ := bnd_some hf
    refine j_callV (q := 0) (As := []) (rest := []) C (k_X8_barred h11) cw_X8_barred ml_L_58 m_0 ce_0 rfl rfl ⟨Nat.le_of_ble_eq_true rfl, Nat.le_of_ble_eq_true rfl⟩ ⟨Nat.le_of_ble_eq_true rfl, Nat.le_of_ble_eq_true rfl⟩ rfl (Nat.le_of_ble_eq_true rfl) dL_holds_15 ?_
    refine j_if_lt C 125 dL_holds_18 (by decide) hf (fun y13 hf => ?_) (fun y13 hf => ?_)
    · refine j_sub [1, 2, 0] rfl ?_
      exact w_L_holds_125 C hr hk z1.2 v1 z1.1 hf
    · refine j_aload_n C 1 rfl dL_holds_21 ?_
      obtain ⟨z14, h15, hf⟩ := bnd_some hf
      refine j_callV (q := 0) (As := []) (rest := []) C (k_X8_barred h15) cw_X8_barred ml_L_58 m_0 ce_0 rfl rfl ⟨Nat.le_of_ble_eq_true rfl, Nat.le_of_ble_eq_true rfl⟩ ⟨Nat.le_of_ble_eq_true rfl, Nat.le_of_ble_eq_true rfl⟩ rfl (Nat.le_of_ble_eq_true rfl) dL_holds_22 ?_
      refine j_bipush (v := 30) C (by decide) dL_holds_25 ?_
      refine j_icmp_gt C 125 dL_holds_27 (by decide) hf (fun y17 hf => ?_) (fun y17 hf => ?_)
      · refine j_sub [1, 2, 0] rfl ?_
        exact w_L_holds_125 C hr hk z1.2 v1 z1.1 hf
      · refine j_aload_n C 1 rfl dL_holds_30 ?_
        obtain ⟨z18, h19, hf⟩ := bnd_some hf
        refine j_callV (q := 0) (As := []) (rest := []) C (k_X8_mode h19) cw_X8_mode ml_L_61 m_0 ce_0 rfl rfl ⟨Nat.le_of_ble_eq_true rfl, Nat.le_of_ble_eq_true rfl⟩ ⟨Nat.le_of_ble_eq_true rfl, Nat.le_of_ble_eq_true rfl⟩ rfl (Nat.le_of_ble_eq_true rfl) dL_holds_31 ?_
        refine j_iconst (v := 1) C (by decide) dL_holds_34 ?_
        refine j_icmp_eq C 45 dL_holds_35 (by decide) hf (fun y21 hf => ?_) (fun y21 hf => ?_)
        · refine j_sub [1, 2, 0] rfl ?_
          exact w_L_holds_45 C hr hk z1.2 v1 z1.1 hf
        · refine j_aload_n C 1 rfl dL_holds_38 ?_
          obtain ⟨z22, h23, hf⟩ := bnd_some hf
          refine j_callV (q := 0) (As := []) (rest := []) C (k_X8_draft h23) cw_X8_draft ml_L_64 m_0 ce_0 rfl rfl ⟨Nat.le_of_ble_eq_true rfl, Nat.le_of_ble_eq_true rfl⟩ ⟨Nat.le_of_ble_eq_true rfl, Nat.le_of_ble_eq_true rfl⟩ rfl (Nat.le_of_ble_eq_true rfl) dL_holds_39 ?_
          refine j_if_ne C 125 dL_holds_42 (by decide) hf (fun y25 hf => ?_) (fun y25 hf => ?_)
          · refine j_sub [1, 2, 0] rfl ?_
            exact w_L_holds_125 C hr hk z1.2 v1 z1.1 hf
          · refine j_sub [1, 2, 0] rfl ?_
            exact w_L_holds_45 C hr hk z1.2 v1 z1.1 hf
set_option maxRecDepth 100000 in
set_option maxHeartbeats 4000000 in
theorem w_L_acts_190 {b : MS} {p : Program} {l : Launch} {e : Env} {s : State} {m : MethodId} {args : Array Value} {below : List Frame} {meth : Method} {c : Code} {G : GT} {A : Nat → Prop} {ad : Nat → Nat} (C : CX G A RL cL_acts 18 p s m args c) (hr : meth.sig.returnType = (some .boolean)) (hk : meth.locks = false) {rr : Int32 × KS}   (a : KS) (v3 : Int64) (hf : f_L_acts_190 a v3 = some rr) : J p l e (RM 7) s m args below meth c G A 18 (MQ below (QV (some (.int rr.1)) (PosW G ad rr.2 b A) A) args s 0 0 A) 0 0 ad a b 190 [(0, .ref (ad 0)), (3, .long v3)] [] := by
  unfold f_L_acts_190 at hf
  refine j_aload_n C 0 rfl dL_acts_190 ?_
  obtain ⟨z1, h2, hf⟩ := bnd_some hf
  refine j_callS (As := [.ref (ad 0)]) (rest := []) C (k_L_values h2) cw_L_values ml_L_100 rfl ⟨Nat.le_of_ble_eq_true rfl, Nat.le_of_ble_eq_true rfl⟩ ⟨Nat.le_of_ble_eq_true rfl, Nat.le_of_ble_eq_true rfl⟩ rfl (Nat.le_of_ble_eq_true rfl) dL_acts_191 ?_
  refine j_lload_n C 1 rfl dL_acts_194 ?_
  refine j_lcmp C dL_acts_195 ?_
  refine j_if_ne C 210 dL_acts_196 (by decide) hf (fun y4 hf => ?_) (fun y4 hf => ?_)
  · refine j_iconst (v := 0) C (by decide) dL_acts_210 ?_
    obtain rfl := Option.some.inj hf
    exact j_zret C hr hk (by decide) ⟨Nat.le_of_ble_eq_true rfl, Nat.le_of_ble_eq_true rfl⟩ rfl dL_acts_211
  · refine j_aload_n C 0 rfl dL_acts_199 ?_
    obtain ⟨z5, h6, hf⟩ := bnd_some hf
    refine j_callV (q := 0) (As := []) (rest := []) C (k_X8_idle h6) cw_X8_idle ml_L_113 m_0 ce_0 rfl rfl ⟨Nat.le_of_ble_eq_true rfl, Nat.le_of_ble_eq_true rfl⟩ ⟨Nat.le_of_ble_eq_true rfl, Nat.le_of_ble_eq_true rfl⟩ rfl (Nat.le_of_ble_eq_true rfl) dL_acts_200 ?_
    refine j_if_ne C 210 dL_acts_203 (by decide) hf (fun y8 hf => ?_) (fun y8 hf => ?_)
    · refine j_iconst (v := 0) C (by decide) dL_acts_210 ?_
      obtain rfl := Option.some.inj hf
      exact j_zret C hr hk (by decide) ⟨Nat.le_of_ble_eq_true rfl, Nat.le_of_ble_eq_true rfl⟩ rfl dL_acts_211
    · refine j_iconst (v := 1) C (by decide) dL_acts_206 ?_
      refine j_goto C 211 dL_acts_207 (by decide) ?_
      obtain rfl := Option.some.inj hf
      exact j_zret C hr hk (by decide) ⟨Nat.le_of_ble_eq_true rfl, Nat.le_of_ble_eq_true rfl⟩ rfl dL_acts_211
set_option maxRecDepth 100000 in
set_option maxHeartbeats 4000000 in
theorem w_L_acts_291 {b : MS} {p : Program} {l : Launch} {e : Env} {s : State} {m : MethodId} {args : Array Value} {below : List Frame} {meth : Method} {c : Code} {G : GT} {A : Nat → Prop} {ad : Nat → Nat} (C : CX G A RL cL_acts 18 p s m args c) (hr : meth.sig.returnType = (some .boolean)) (hk : meth.locks = false) {rr : Int32 × KS}   (a : KS) (s0 : Int32) (s1 : Int32) (hf : f_L_acts_291 a s0 s1 = some rr) : J p l e (RM 7) s m args below meth c G A 18 (MQ below (QV (some (.int rr.1)) (PosW G ad rr.2 b A) A) args s 0 0 A) 0 0 ad a b 291 [] [.int s1, .int s0] := by
  unfold f_L_acts_291 at hf
  refine j_icmp_ne C 298 dL_acts_291 (by decide) hf (fun y1 hf => ?_) (fun y1 hf => ?_)
  · refine j_iconst (v := 0) C (by decide) dL_acts_298 ?_
    obtain rfl := Option.some.inj hf
    exact j_zret C hr hk (by decide) ⟨Nat.le_of_ble_eq_true rfl, Nat.le_of_ble_eq_true rfl⟩ rfl dL_acts_299
  · refine j_iconst (v := 1) C (by decide) dL_acts_294 ?_
    refine j_goto C 299 dL_acts_295 (by decide) ?_
    obtain rfl := Option.some.inj hf
    exact j_zret C hr hk (by decide) ⟨Nat.le_of_ble_eq_true rfl, Nat.le_of_ble_eq_true rfl⟩ rfl dL_acts_299
set_option maxRecDepth 100000 in
set_option maxHeartbeats 4000000 in
theorem w_L_acts_230 {b : MS} {p : Program} {l : Launch} {e : Env} {s : State} {m : MethodId} {args : Array Value} {below : List Frame} {meth : Method} {c : Code} {G : GT} {A : Nat → Prop} {ad : Nat → Nat} (C : CX G A RL cL_acts 18 p s m args c) (hr : meth.sig.returnType = (some .boolean)) (hk : meth.locks = false) {rr : Int32 × KS}   (a : KS) (v3 : Int64) (v7 : Int32) (s0 : Int32) (s1 : Int32) (s2 : Int32) (hf : f_L_acts_230 a v3 v7 s0 s1 s2 = some rr) : J p l e (RM 7) s m args below meth c G A 18 (MQ below (QV (some (.int rr.1)) (PosW G ad rr.2 b A) A) args s 0 0 A) 0 0 ad a b 230 [(0, .ref (ad 0)), (3, .long v3), (7, .int v7)] [.int s2, .int s1, .int s0] := by
  unfold f_L_acts_230 at hf
  obtain ⟨z1, h2, hf⟩ := bnd_some hf
  refine j_callS (As := [.int s1, .int s2]) (rest := [.int s0]) C (k_L_up h2) cw_L_up ml_L_29 rfl ⟨Nat.le_of_ble_eq_true rfl, Nat.le_of_ble_eq_true rfl⟩ ⟨Nat.le_of_ble_eq_true rfl, Nat.le_of_ble_eq_true rfl⟩ rfl (Nat.le_of_ble_eq_true rfl) dL_acts_230 ?_
  refine j_iadd C dL_acts_233 ?_
  refine j_letI hf (fun x4 hf => ?_)
  refine j_istore (lv' := [(9, .int x4), (0, .ref (ad 0)), (3, .long v3), (7, .int v7)]) C dL_acts_234 (by decide) rfl ?_
  refine j_aload_n C 1 rfl dL_acts_236 ?_
  refine j_bipush (v := 6) C (by decide) dL_acts_237 ?_
  obtain ⟨z5, h6, hf⟩ := bnd_some hf
  obtain ⟨y7, hf⟩ := gd_some hf
  have y7 := of_decide_eq_true y7
  refine j_callV (q := 0) (As := [.int 6]) (rest := []) C (k_X8_events h6 y7) cw_X8_events ml_L_104 m_0 ce_0 rfl rfl ⟨Nat.le_of_ble_eq_true rfl, Nat.le_of_ble_eq_true rfl⟩ ⟨Nat.le_of_ble_eq_true rfl, Nat.le_of_ble_eq_true rfl⟩ rfl (Nat.le_of_ble_eq_true rfl) dL_acts_239 ?_
  refine j_istore (lv' := [(10, .int z5.2), (9, .int x4), (0, .ref (ad 0)), (3, .long v3), (7, .int v7)]) C dL_acts_242 (by decide) rfl ?_
  refine j_aload_n C 2 rfl dL_acts_244 ?_
  refine j_iload C 1 rfl dL_acts_245 ?_
  obtain ⟨z8, h9, hf⟩ := bnd_some hf
  obtain ⟨y10, hf⟩ := gd_some hf
  have y10 := of_decide_eq_true y10
  refine j_callV (q := 0) (As := [.int x4]) (rest := []) C (k_X8_tick h9 y10) cw_X8_tick ml_L_116 m_0 ce_0 rfl rfl ⟨Nat.le_of_ble_eq_true rfl, Nat.le_of_ble_eq_true rfl⟩ ⟨Nat.le_of_ble_eq_true rfl, Nat.le_of_ble_eq_true rfl⟩ rfl (Nat.le_of_ble_eq_true rfl) dL_acts_247 ?_
  refine j_aload_n C 2 rfl dL_acts_250 ?_
  refine j_bipush (v := 6) C (by decide) dL_acts_251 ?_
  obtain ⟨z13, h14, hf⟩ := bnd_some hf
  obtain ⟨y15, hf⟩ := gd_some hf
  have y15 := of_decide_eq_true y15
  refine j_callV (q := 0) (As := [.int 6]) (rest := [.int z8.2.1]) C (k_X8_events h14 y15) cw_X8_events ml_L_104 m_0 ce_0 rfl rfl ⟨Nat.le_of_ble_eq_true rfl, Nat.le_of_ble_eq_true rfl⟩ ⟨Nat.le_of_ble_eq_true rfl, Nat.le_of_ble_eq_true rfl⟩ rfl (Nat.le_of_ble_eq_true rfl) dL_acts_253 ?_
  refine j_iload C 0 rfl dL_acts_256 ?_
  refine j_isub C dL_acts_258 ?_
  refine j_icmp_ne C 298 dL_acts_259 (by decide) hf (fun y16 hf => ?_) (fun y16 hf => ?_)
  · refine j_iconst (v := 0) C (by decide) dL_acts_298 ?_
    obtain rfl := Option.some.inj hf
    exact j_zret C hr hk (by decide) ⟨Nat.le_of_ble_eq_true rfl, Nat.le_of_ble_eq_true rfl⟩ rfl dL_acts_299
  · refine j_aload_n C 2 rfl dL_acts_262 ?_
    obtain ⟨z17, h18, hf⟩ := bnd_some hf
    refine j_callS (As := [.ref (ad 0)]) (rest := []) C (k_L_values h18) cw_L_values ml_L_100 rfl ⟨Nat.le_of_ble_eq_true rfl, Nat.le_of_ble_eq_true rfl⟩ ⟨Nat.le_of_ble_eq_true rfl, Nat.le_of_ble_eq_true rfl⟩ rfl (Nat.le_of_ble_eq_true rfl) dL_acts_263 ?_
    refine j_lload_n C 3 rfl dL_acts_266 ?_
    refine j_lcmp C dL_acts_267 ?_
    refine j_if_ne C 298 dL_acts_268 (by decide) hf (fun y20 hf => ?_) (fun y20 hf => ?_)
    · refine j_iconst (v := 0) C (by decide) dL_acts_298 ?_
      obtain rfl := Option.some.inj hf
      exact j_zret C hr hk (by decide) ⟨Nat.le_of_ble_eq_true rfl, Nat.le_of_ble_eq_true rfl⟩ rfl dL_acts_299
    · refine j_aload_n C 2 rfl dL_acts_271 ?_
      obtain ⟨z21, h22, hf⟩ := bnd_some hf
      refine j_callV (q := 0) (As := []) (rest := []) C (k_X8_barred h22) cw_X8_barred ml_L_58 m_0 ce_0 rfl rfl ⟨Nat.le_of_ble_eq_true rfl, Nat.le_of_ble_eq_true rfl⟩ ⟨Nat.le_of_ble_eq_true rfl, Nat.le_of_ble_eq_true rfl⟩ rfl (Nat.le_of_ble_eq_true rfl) dL_acts_272 ?_
      refine j_iload C 4 rfl dL_acts_275 ?_
      refine j_iload C 1 rfl dL_acts_277 ?_
      refine j_icmp_le C 290 dL_acts_279 (by decide) hf (fun y24 hf => ?_) (fun y24 hf => ?_)
      · refine j_iconst (v := 0) C (by decide) dL_acts_290 ?_
        refine j_sub [] rfl ?_
        exact w_L_acts_291 C hr hk z8.2.2 z21 0 hf
      · refine j_iload C 4 rfl dL_acts_282 ?_
        refine j_iload C 1 rfl dL_acts_284 ?_
        refine j_isub C dL_acts_286 ?_
        refine j_goto C 291 dL_acts_287 (by decide) ?_
        refine j_sub [] rfl ?_
        exact w_L_acts_291 C hr hk z8.2.2 z21 (v7 - x4) hf
set_option maxRecDepth 100000 in
set_option maxHeartbeats 4000000 in
theorem w_L_acts_432 {b : MS} {p : Program} {l : Launch} {e : Env} {s : State} {m : MethodId} {args : Array Value} {below : List Frame} {meth : Method} {c : Code} {G : GT} {A : Nat → Prop} {ad : Nat → Nat} (C : CX G A RL cL_acts 18 p s m args c) (hr : meth.sig.returnType = (some .boolean)) (hk : meth.locks = false) {rr : Int32 × KS}   (a : KS) (v3 : Int64) (s0 : Int32) (s1 : Int32) (hf : f_L_acts_432 a v3 s0 s1 = some rr) : J p l e (RM 7) s m args below meth c G A 18 (MQ below (QV (some (.int rr.1)) (PosW G ad rr.2 b A) A) args s 0 0 A) 0 0 ad a b 432 [(0, .ref (ad 0)), (3, .long v3)] [.int s1, .int s0] := by
  unfold f_L_acts_432 at hf
  refine j_isub C dL_acts_432 ?_
  refine j_letI hf (fun x1 hf => ?_)
  refine j_istore (lv' := [(12, .int x1), (0, .ref (ad 0)), (3, .long v3)]) C dL_acts_433 (by decide) rfl ?_
  refine j_aload_n C 1 rfl dL_acts_435 ?_
  refine j_iload C 0 rfl dL_acts_436 ?_
  obtain ⟨z2, h3, hf⟩ := bnd_some hf
  obtain ⟨y4, hf⟩ := gd_some hf
  have y4 := of_decide_eq_true y4
  refine j_callV (q := 0) (As := [.int x1]) (rest := []) C (k_X8_ifTurned h3 y4) cw_X8_ifTurned ml_L_97 m_0 ce_0 rfl rfl ⟨Nat.le_of_ble_eq_true rfl, Nat.le_of_ble_eq_true rfl⟩ ⟨Nat.le_of_ble_eq_true rfl, Nat.le_of_ble_eq_true rfl⟩ rfl (Nat.le_of_ble_eq_true rfl) dL_acts_438 ?_
  refine j_istore (lv' := [(13, .int z2.2), (12, .int x1), (0, .ref (ad 0)), (3, .long v3)]) C dL_acts_441 (by decide) rfl ?_
  refine j_aload_n C 2 rfl dL_acts_443 ?_
  refine j_iload C 1 rfl dL_acts_444 ?_
  obtain ⟨z5, h6, hf⟩ := bnd_some hf
  obtain ⟨y7, hf⟩ := gd_some hf
  have y7 := of_decide_eq_true y7
  refine j_callV (q := 0) (As := [.int x1]) (rest := []) C (k_X8_turn h6 y7) cw_X8_turn ml_L_128 m_0 ce_0 rfl rfl ⟨Nat.le_of_ble_eq_true rfl, Nat.le_of_ble_eq_true rfl⟩ ⟨Nat.le_of_ble_eq_true rfl, Nat.le_of_ble_eq_true rfl⟩ rfl (Nat.le_of_ble_eq_true rfl) dL_acts_446 ?_
  refine j_iload C 0 rfl dL_acts_449 ?_
  refine j_icmp_ne C 474 dL_acts_451 (by decide) hf (fun y10 hf => ?_) (fun y10 hf => ?_)
  · refine j_iconst (v := 0) C (by decide) dL_acts_474 ?_
    obtain rfl := Option.some.inj hf
    exact j_zret C hr hk (by decide) ⟨Nat.le_of_ble_eq_true rfl, Nat.le_of_ble_eq_true rfl⟩ rfl dL_acts_475
  · refine j_aload_n C 2 rfl dL_acts_454 ?_
    obtain ⟨z11, h12, hf⟩ := bnd_some hf
    refine j_callS (As := [.ref (ad 0)]) (rest := []) C (k_L_values h12) cw_L_values ml_L_100 rfl ⟨Nat.le_of_ble_eq_true rfl, Nat.le_of_ble_eq_true rfl⟩ ⟨Nat.le_of_ble_eq_true rfl, Nat.le_of_ble_eq_true rfl⟩ rfl (Nat.le_of_ble_eq_true rfl) dL_acts_455 ?_
    refine j_lload_n C 3 rfl dL_acts_458 ?_
    refine j_lcmp C dL_acts_459 ?_
    refine j_if_ne C 474 dL_acts_460 (by decide) hf (fun y14 hf => ?_) (fun y14 hf => ?_)
    · refine j_iconst (v := 0) C (by decide) dL_acts_474 ?_
      obtain rfl := Option.some.inj hf
      exact j_zret C hr hk (by decide) ⟨Nat.le_of_ble_eq_true rfl, Nat.le_of_ble_eq_true rfl⟩ rfl dL_acts_475
    · refine j_aload_n C 2 rfl dL_acts_463 ?_
      obtain ⟨z15, h16, hf⟩ := bnd_some hf
      refine j_callV (q := 0) (As := []) (rest := []) C (k_X8_idle h16) cw_X8_idle ml_L_113 m_0 ce_0 rfl rfl ⟨Nat.le_of_ble_eq_true rfl, Nat.le_of_ble_eq_true rfl⟩ ⟨Nat.le_of_ble_eq_true rfl, Nat.le_of_ble_eq_true rfl⟩ rfl (Nat.le_of_ble_eq_true rfl) dL_acts_464 ?_
      refine j_if_ne C 474 dL_acts_467 (by decide) hf (fun y18 hf => ?_) (fun y18 hf => ?_)
      · refine j_iconst (v := 0) C (by decide) dL_acts_474 ?_
        obtain rfl := Option.some.inj hf
        exact j_zret C hr hk (by decide) ⟨Nat.le_of_ble_eq_true rfl, Nat.le_of_ble_eq_true rfl⟩ rfl dL_acts_475
      · refine j_iconst (v := 1) C (by decide) dL_acts_470 ?_
        refine j_goto C 475 dL_acts_471 (by decide) ?_
        obtain rfl := Option.some.inj hf
        exact j_zret C hr hk (by decide) ⟨Nat.le_of_ble_eq_true rfl, Nat.le_of_ble_eq_true rfl⟩ rfl dL_acts_475
set_option maxRecDepth 100000 in
set_option maxHeartbeats 4000000 in
theorem w_L_acts_413 {b : MS} {p : Program} {l : Launch} {e : Env} {s : State} {m : MethodId} {args : Array Value} {below : List Frame} {meth : Method} {c : Code} {G : GT} {A : Nat → Prop} {ad : Nat → Nat} (C : CX G A RL cL_acts 18 p s m args c) (hr : meth.sig.returnType = (some .boolean)) (hk : meth.locks = false) {rr : Int32 × KS}   (a : KS) (v2 : Int32) (v3 : Int64) (s0 : Int32) (s1 : Int32) (hf : f_L_acts_413 a v2 v3 s0 s1 = some rr) : J p l e (RM 7) s m args below meth c G A 18 (MQ below (QV (some (.int rr.1)) (PosW G ad rr.2 b A) A) args s 0 0 A) 0 0 ad a b 413 [(0, .ref (ad 0)), (2, .int v2), (3, .long v3)] [.int s1, .int s0] := by
  unfold f_L_acts_413 at hf
  obtain ⟨z1, h2, hf⟩ := bnd_some hf
  refine j_callS (As := [.int s0, .int s1]) (rest := []) C (k_L_up h2) cw_L_up ml_L_29 rfl ⟨Nat.le_of_ble_eq_true rfl, Nat.le_of_ble_eq_true rfl⟩ ⟨Nat.le_of_ble_eq_true rfl, Nat.le_of_ble_eq_true rfl⟩ rfl (Nat.le_of_ble_eq_true rfl) dL_acts_413 ?_
  refine j_iload_n C 1 rfl dL_acts_416 ?_
  refine j_bipush (v := 9) C (by decide) dL_acts_417 ?_
  refine j_ishr C dL_acts_419 ?_
  refine j_iconst (v := 1) C (by decide) dL_acts_420 ?_
  refine j_iand C dL_acts_421 ?_
  refine j_if_ne C 430 dL_acts_422 (by decide) hf (fun y4 hf => ?_) (fun y4 hf => ?_)
  · refine j_bipush (v := 6) C (by decide) dL_acts_430 ?_
    refine j_sub [0, 2] rfl ?_
    exact w_L_acts_432 C hr hk a v3 z1 6 hf
  · refine j_bipush (v := 50) C (by decide) dL_acts_425 ?_
    refine j_goto C 432 dL_acts_427 (by decide) ?_
    refine j_sub [0, 2] rfl ?_
    exact w_L_acts_432 C hr hk a v3 z1 50 hf
set_option maxRecDepth 100000 in
set_option maxHeartbeats 4000000 in
theorem w_L_acts_665 {b : MS} {p : Program} {l : Launch} {e : Env} {s : State} {m : MethodId} {args : Array Value} {below : List Frame} {meth : Method} {c : Code} {G : GT} {A : Nat → Prop} {ad : Nat → Nat} (C : CX G A RL cL_acts 18 p s m args c) (hr : meth.sig.returnType = (some .boolean)) (hk : meth.locks = false) {rr : Int32 × KS}   (a : KS) (v3 : Int64) (v15 : Int32) (s0 : Int32) (hf : f_L_acts_665 a v3 v15 s0 = some rr) : J p l e (RM 7) s m args below meth c G A 18 (MQ below (QV (some (.int rr.1)) (PosW G ad rr.2 b A) A) args s 0 0 A) 0 0 ad a b 665 [(0, .ref (ad 0)), (3, .long v3), (15, .int v15)] [.int s0] := by
  unfold f_L_acts_665 at hf
  refine j_istore (lv' := [(16, .int s0), (0, .ref (ad 0)), (3, .long v3), (15, .int v15)]) C dL_acts_665 (by decide) rfl ?_
  refine j_iload C 0 rfl dL_acts_667 ?_
  refine j_if_eq C 737 dL_acts_669 (by decide) hf (fun y1 hf => ?_) (fun y1 hf => ?_)
  · refine j_iload C 0 rfl dL_acts_737 ?_
    obtain ⟨h2, hf⟩ := gd_some hf
    obtain rfl := Option.some.inj hf
    exact j_zret C hr hk (okz_n h2) ⟨Nat.le_of_ble_eq_true rfl, Nat.le_of_ble_eq_true rfl⟩ rfl dL_acts_739
  · refine j_iload C 3 rfl dL_acts_672 ?_
    refine j_if_eq C 737 dL_acts_674 (by decide) hf (fun y3 hf => ?_) (fun y3 hf => ?_)
    · refine j_iload C 0 rfl dL_acts_737 ?_
      obtain ⟨h4, hf⟩ := gd_some hf
      obtain rfl := Option.some.inj hf
      exact j_zret C hr hk (okz_n h4) ⟨Nat.le_of_ble_eq_true rfl, Nat.le_of_ble_eq_true rfl⟩ rfl dL_acts_739
    · refine j_aload_n C 1 rfl dL_acts_677 ?_
      obtain ⟨z5, h6, hf⟩ := bnd_some hf
      obtain ⟨y7, hf⟩ := gd_some hf
      have y7 := of_decide_eq_true y7
      refine j_callV (q := 0) (As := []) (rest := []) C (k_X8_takeBack h6 y7) cw_X8_takeBack ml_L_125 m_0 ce_0 rfl rfl ⟨Nat.le_of_ble_eq_true rfl, Nat.le_of_ble_eq_true rfl⟩ ⟨Nat.le_of_ble_eq_true rfl, Nat.le_of_ble_eq_true rfl⟩ rfl (Nat.le_of_ble_eq_true rfl) dL_acts_678 ?_
      refine j_istore (lv' := [(17, .int z5.2.1), (16, .int s0), (0, .ref (ad 0)), (3, .long v3), (15, .int v15)]) C dL_acts_681 (by decide) rfl ?_
      refine j_iload C 0 rfl dL_acts_683 ?_
      refine j_aload_n C 2 rfl dL_acts_685 ?_
      obtain ⟨z10, h11, hf⟩ := bnd_some hf
      refine j_callV (q := 0) (As := []) (rest := [.int z5.2.1]) C (k_X8_chosen h11) cw_X8_chosen ml_L_134 m_0 ce_0 rfl rfl ⟨Nat.le_of_ble_eq_true rfl, Nat.le_of_ble_eq_true rfl⟩ ⟨Nat.le_of_ble_eq_true rfl, Nat.le_of_ble_eq_true rfl⟩ rfl (Nat.le_of_ble_eq_true rfl) dL_acts_686 ?_
      refine j_icmp_ne C 734 dL_acts_689 (by decide) hf (fun y13 hf => ?_) (fun y13 hf => ?_)
      · refine j_iconst (v := 0) C (by decide) dL_acts_734 ?_
        refine j_istore (lv' := [(16, .int 0), (17, .int z5.2.1), (0, .ref (ad 0)), (3, .long v3), (15, .int v15)]) C dL_acts_735 (by decide) rfl ?_
        refine j_iload C 0 rfl dL_acts_737 ?_
        obtain rfl := Option.some.inj hf
        exact j_zret C hr hk (by decide) ⟨Nat.le_of_ble_eq_true rfl, Nat.le_of_ble_eq_true rfl⟩ rfl dL_acts_739
      · refine j_aload_n C 2 rfl dL_acts_692 ?_
        obtain ⟨z14, h15, hf⟩ := bnd_some hf
        refine j_callS (As := [.ref (ad 0)]) (rest := []) C (k_L_values h15) cw_L_values ml_L_100 rfl ⟨Nat.le_of_ble_eq_true rfl, Nat.le_of_ble_eq_true rfl⟩ ⟨Nat.le_of_ble_eq_true rfl, Nat.le_of_ble_eq_true rfl⟩ rfl (Nat.le_of_ble_eq_true rfl) dL_acts_693 ?_
        refine j_lload_n C 3 rfl dL_acts_696 ?_
        refine j_lcmp C dL_acts_697 ?_
        refine j_if_ne C 734 dL_acts_698 (by decide) hf (fun y17 hf => ?_) (fun y17 hf => ?_)
        · refine j_iconst (v := 0) C (by decide) dL_acts_734 ?_
          refine j_istore (lv' := [(16, .int 0), (17, .int z5.2.1), (0, .ref (ad 0)), (3, .long v3), (15, .int v15)]) C dL_acts_735 (by decide) rfl ?_
          refine j_iload C 0 rfl dL_acts_737 ?_
          obtain rfl := Option.some.inj hf
          exact j_zret C hr hk (by decide) ⟨Nat.le_of_ble_eq_true rfl, Nat.le_of_ble_eq_true rfl⟩ rfl dL_acts_739
        · refine j_aload_n C 2 rfl dL_acts_701 ?_
          obtain ⟨z18, h19, hf⟩ := bnd_some hf
          refine j_callV (q := 0) (As := []) (rest := []) C (k_X8_press h19) cw_X8_press ml_L_131 m_0 ce_0 rfl rfl ⟨Nat.le_of_ble_eq_true rfl, Nat.le_of_ble_eq_true rfl⟩ ⟨Nat.le_of_ble_eq_true rfl, Nat.le_of_ble_eq_true rfl⟩ rfl (Nat.le_of_ble_eq_true rfl) dL_acts_702 ?_
          refine j_iconst (v := 3) C (by decide) dL_acts_705 ?_
          refine j_icmp_ne C 734 dL_acts_706 (by decide) hf (fun y23 hf => ?_) (fun y23 hf => ?_)
          · refine j_iconst (v := 0) C (by decide) dL_acts_734 ?_
            refine j_istore (lv' := [(16, .int 0), (17, .int z5.2.1), (0, .ref (ad 0)), (3, .long v3), (15, .int v15)]) C dL_acts_735 (by decide) rfl ?_
            refine j_iload C 0 rfl dL_acts_737 ?_
            obtain rfl := Option.some.inj hf
            exact j_zret C hr hk (by decide) ⟨Nat.le_of_ble_eq_true rfl, Nat.le_of_ble_eq_true rfl⟩ rfl dL_acts_739
          · refine j_aload_n C 2 rfl dL_acts_709 ?_
            obtain ⟨z24, h25, hf⟩ := bnd_some hf
            refine j_callV (q := 0) (As := []) (rest := []) C (k_X8_draft h25) cw_X8_draft ml_L_64 m_0 ce_0 rfl rfl ⟨Nat.le_of_ble_eq_true rfl, Nat.le_of_ble_eq_true rfl⟩ ⟨Nat.le_of_ble_eq_true rfl, Nat.le_of_ble_eq_true rfl⟩ rfl (Nat.le_of_ble_eq_true rfl) dL_acts_710 ?_
            refine j_aload_n C 2 rfl dL_acts_713 ?_
            refine j_iload C 0 rfl dL_acts_714 ?_
            obtain ⟨z27, h28, hf⟩ := bnd_some hf
            obtain ⟨y29, hf⟩ := gd_some hf
            have y29 := of_decide_eq_true y29
            refine j_callV (q := 0) (As := [.int z5.2.1]) (rest := [.int z24]) C (k_X8_value h28 y29) cw_X8_value ml_L_23 m_0 ce_0 rfl rfl ⟨Nat.le_of_ble_eq_true rfl, Nat.le_of_ble_eq_true rfl⟩ ⟨Nat.le_of_ble_eq_true rfl, Nat.le_of_ble_eq_true rfl⟩ rfl (Nat.le_of_ble_eq_true rfl) dL_acts_716 ?_
            refine j_icmp_ne C 734 dL_acts_719 (by decide) hf (fun y30 hf => ?_) (fun y30 hf => ?_)
            · refine j_iconst (v := 0) C (by decide) dL_acts_734 ?_
              refine j_istore (lv' := [(16, .int 0), (17, .int z5.2.1), (0, .ref (ad 0)), (3, .long v3), (15, .int v15)]) C dL_acts_735 (by decide) rfl ?_
              refine j_iload C 0 rfl dL_acts_737 ?_
              obtain rfl := Option.some.inj hf
              exact j_zret C hr hk (by decide) ⟨Nat.le_of_ble_eq_true rfl, Nat.le_of_ble_eq_true rfl⟩ rfl dL_acts_739
            · refine j_aload_n C 2 rfl dL_acts_722 ?_
              obtain ⟨z31, h32, hf⟩ := bnd_some hf
              refine j_callV (q := 0) (As := []) (rest := []) C (k_X8_hold h32) cw_X8_hold ml_L_110 m_0 ce_0 rfl rfl ⟨Nat.le_of_ble_eq_true rfl, Nat.le_of_ble_eq_true rfl⟩ ⟨Nat.le_of_ble_eq_true rfl, Nat.le_of_ble_eq_true rfl⟩ rfl (Nat.le_of_ble_eq_true rfl) dL_acts_723 ?_
              refine j_iconst (v := 1) C (by decide) dL_acts_726 ?_
              refine j_icmp_ne C 734 dL_acts_727 (by decide) hf (fun y36 hf => ?_) (fun y36 hf => ?_)
              · refine j_iconst (v := 0) C (by decide) dL_acts_734 ?_
                refine j_istore (lv' := [(16, .int 0), (17, .int z5.2.1), (0, .ref (ad 0)), (3, .long v3), (15, .int v15)]) C dL_acts_735 (by decide) rfl ?_
                refine j_iload C 0 rfl dL_acts_737 ?_
                obtain rfl := Option.some.inj hf
                exact j_zret C hr hk (by decide) ⟨Nat.le_of_ble_eq_true rfl, Nat.le_of_ble_eq_true rfl⟩ rfl dL_acts_739
              · refine j_iconst (v := 1) C (by decide) dL_acts_730 ?_
                refine j_goto C 735 dL_acts_731 (by decide) ?_
                refine j_istore (lv' := [(16, .int 1), (17, .int z5.2.1), (0, .ref (ad 0)), (3, .long v3), (15, .int v15)]) C dL_acts_735 (by decide) rfl ?_
                refine j_iload C 0 rfl dL_acts_737 ?_
                obtain rfl := Option.some.inj hf
                exact j_zret C hr hk (by decide) ⟨Nat.le_of_ble_eq_true rfl, Nat.le_of_ble_eq_true rfl⟩ rfl dL_acts_739
set_option maxRecDepth 100000 in
set_option maxHeartbeats 4000000 in
theorem w_L_acts_660 {b : MS} {p : Program} {l : Launch} {e : Env} {s : State} {m : MethodId} {args : Array Value} {below : List Frame} {meth : Method} {c : Code} {G : GT} {A : Nat → Prop} {ad : Nat → Nat} (C : CX G A RL cL_acts 18 p s m args c) (hr : meth.sig.returnType = (some .boolean)) (hk : meth.locks = false) {rr : Int32 × KS}   (a : KS) (v3 : Int64) (v15 : Int32) (hf : f_L_acts_660 a v3 v15 = some rr) : J p l e (RM 7) s m args below meth c G A 18 (MQ below (QV (some (.int rr.1)) (PosW G ad rr.2 b A) A) args s 0 0 A) 0 0 ad a b 660 [(0, .ref (ad 0)), (3, .long v3), (15, .int v15)] [] := by
  unfold f_L_acts_660 at hf
  refine j_iconst (v := 1) C (by decide) dL_acts_660 ?_
  refine j_goto C 665 dL_acts_661 (by decide) ?_
  refine j_sub [0, 1, 2] rfl ?_
  exact w_L_acts_665 C hr hk a v3 v15 1 hf
set_option maxRecDepth 100000 in
set_option maxHeartbeats 4000000 in
theorem w_L_acts_664 {b : MS} {p : Program} {l : Launch} {e : Env} {s : State} {m : MethodId} {args : Array Value} {below : List Frame} {meth : Method} {c : Code} {G : GT} {A : Nat → Prop} {ad : Nat → Nat} (C : CX G A RL cL_acts 18 p s m args c) (hr : meth.sig.returnType = (some .boolean)) (hk : meth.locks = false) {rr : Int32 × KS}   (a : KS) (v3 : Int64) (v15 : Int32) (hf : f_L_acts_664 a v3 v15 = some rr) : J p l e (RM 7) s m args below meth c G A 18 (MQ below (QV (some (.int rr.1)) (PosW G ad rr.2 b A) A) args s 0 0 A) 0 0 ad a b 664 [(0, .ref (ad 0)), (3, .long v3), (15, .int v15)] [] := by
  unfold f_L_acts_664 at hf
  refine j_iconst (v := 0) C (by decide) dL_acts_664 ?_
  refine j_sub [0, 1, 2] rfl ?_
  exact w_L_acts_665 C hr hk a v3 v15 0 hf
set_option maxRecDepth 100000 in
set_option maxHeartbeats 4000000 in
theorem w_L_acts_642 {b : MS} {p : Program} {l : Launch} {e : Env} {s : State} {m : MethodId} {args : Array Value} {below : List Frame} {meth : Method} {c : Code} {G : GT} {A : Nat → Prop} {ad : Nat → Nat} (C : CX G A RL cL_acts 18 p s m args c) (hr : meth.sig.returnType = (some .boolean)) (hk : meth.locks = false) {rr : Int32 × KS}   (a : KS) (v3 : Int64) (v14 : Int32) (v15 : Int32) (hf : f_L_acts_642 a v3 v14 v15 = some rr) : J p l e (RM 7) s m args below meth c G A 18 (MQ below (QV (some (.int rr.1)) (PosW G ad rr.2 b A) A) args s 0 0 A) 0 0 ad a b 642 [(0, .ref (ad 0)), (3, .long v3), (14, .int v14), (15, .int v15)] [] := by
  unfold f_L_acts_642 at hf
  refine j_iload C 2 rfl dL_acts_642 ?_
  refine j_bipush (v := 7) C (by decide) dL_acts_644 ?_
  refine j_icmp_ne C 660 dL_acts_646 (by decide) hf (fun y1 hf => ?_) (fun y1 hf => ?_)
  · refine j_sub [0, 1, 3] rfl ?_
    exact w_L_acts_660 C hr hk a v3 v15 hf
  · refine j_aload_n C 0 rfl dL_acts_649 ?_
    refine j_aload_n C 0 rfl dL_acts_650 ?_
    obtain ⟨z2, h3, hf⟩ := bnd_some hf
    refine j_callV (q := 0) (As := []) (rest := [.ref (ad 0)]) C (k_X8_chosen h3) cw_X8_chosen ml_L_134 m_0 ce_0 rfl rfl ⟨Nat.le_of_ble_eq_true rfl, Nat.le_of_ble_eq_true rfl⟩ ⟨Nat.le_of_ble_eq_true rfl, Nat.le_of_ble_eq_true rfl⟩ rfl (Nat.le_of_ble_eq_true rfl) dL_acts_651 ?_
    obtain ⟨z5, h6, hf⟩ := bnd_some hf
    obtain ⟨y7, hf⟩ := gd_some hf
    have y7 := of_decide_eq_true y7
    refine j_callV (q := 0) (As := [.int z2]) (rest := []) C (k_X8_isClosed h6 y7) cw_X8_isClosed ml_L_93 m_0 ce_0 rfl rfl ⟨Nat.le_of_ble_eq_true rfl, Nat.le_of_ble_eq_true rfl⟩ ⟨Nat.le_of_ble_eq_true rfl, Nat.le_of_ble_eq_true rfl⟩ rfl (Nat.le_of_ble_eq_true rfl) dL_acts_654 ?_
    refine j_if_ne C 664 dL_acts_657 (by decide) hf (fun y8 hf => ?_) (fun y8 hf => ?_)
    · refine j_sub [0, 1, 3] rfl ?_
      exact w_L_acts_664 C hr hk a v3 v15 hf
    · refine j_sub [0, 1, 3] rfl ?_
      exact w_L_acts_660 C hr hk a v3 v15 hf
set_option maxRecDepth 100000 in
set_option maxHeartbeats 4000000 in
theorem w_L_acts_613 {b : MS} {p : Program} {l : Launch} {e : Env} {s : State} {m : MethodId} {args : Array Value} {below : List Frame} {meth : Method} {c : Code} {G : GT} {A : Nat → Prop} {ad : Nat → Nat} (C : CX G A RL cL_acts 18 p s m args c) (hr : meth.sig.returnType = (some .boolean)) (hk : meth.locks = false) {rr : Int32 × KS}   (a : KS) (v3 : Int64) (v14 : Int32) (v15 : Int32) (hf : f_L_acts_613 a v3 v14 v15 = some rr) : J p l e (RM 7) s m args below meth c G A 18 (MQ below (QV (some (.int rr.1)) (PosW G ad rr.2 b A) A) args s 0 0 A) 0 0 ad a b 613 [(0, .ref (ad 0)), (3, .long v3), (14, .int v14), (15, .int v15)] [] := by
  unfold f_L_acts_613 at hf
  refine j_iload C 2 rfl dL_acts_613 ?_
  refine j_iconst (v := 3) C (by decide) dL_acts_615 ?_
  refine j_icmp_ne C 642 dL_acts_616 (by decide) hf (fun y1 hf => ?_) (fun y1 hf => ?_)
  · refine j_sub [0, 1, 2, 3] rfl ?_
    exact w_L_acts_642 C hr hk a v3 v14 v15 hf
  · refine j_aload_n C 0 rfl dL_acts_619 ?_
    obtain ⟨z2, h3, hf⟩ := bnd_some hf
    refine j_callV (q := 0) (As := []) (rest := []) C (k_X8_mode h3) cw_X8_mode ml_L_61 m_0 ce_0 rfl rfl ⟨Nat.le_of_ble_eq_true rfl, Nat.le_of_ble_eq_true rfl⟩ ⟨Nat.le_of_ble_eq_true rfl, Nat.le_of_ble_eq_true rfl⟩ rfl (Nat.le_of_ble_eq_true rfl) dL_acts_620 ?_
    refine j_iconst (v := 1) C (by decide) dL_acts_623 ?_
    refine j_icmp_ne C 664 dL_acts_624 (by decide) hf (fun y5 hf => ?_) (fun y5 hf => ?_)
    · refine j_sub [0, 1, 3] rfl ?_
      exact w_L_acts_664 C hr hk a v3 v15 hf
    · refine j_aload_n C 0 rfl dL_acts_627 ?_
      obtain ⟨z6, h7, hf⟩ := bnd_some hf
      refine j_callV (q := 0) (As := []) (rest := []) C (k_X8_draft h7) cw_X8_draft ml_L_64 m_0 ce_0 rfl rfl ⟨Nat.le_of_ble_eq_true rfl, Nat.le_of_ble_eq_true rfl⟩ ⟨Nat.le_of_ble_eq_true rfl, Nat.le_of_ble_eq_true rfl⟩ rfl (Nat.le_of_ble_eq_true rfl) dL_acts_628 ?_
      refine j_aload_n C 0 rfl dL_acts_631 ?_
      refine j_aload_n C 0 rfl dL_acts_632 ?_
      obtain ⟨z9, h10, hf⟩ := bnd_some hf
      refine j_callV (q := 0) (As := []) (rest := [.ref (ad 0), .int z6]) C (k_X8_chosen h10) cw_X8_chosen ml_L_134 m_0 ce_0 rfl rfl ⟨Nat.le_of_ble_eq_true rfl, Nat.le_of_ble_eq_true rfl⟩ ⟨Nat.le_of_ble_eq_true rfl, Nat.le_of_ble_eq_true rfl⟩ rfl (Nat.le_of_ble_eq_true rfl) dL_acts_633 ?_
      obtain ⟨z12, h13, hf⟩ := bnd_some hf
      obtain ⟨y14, hf⟩ := gd_some hf
      have y14 := of_decide_eq_true y14
      refine j_callV (q := 0) (As := [.int z9]) (rest := [.int z6]) C (k_X8_value h13 y14) cw_X8_value ml_L_23 m_0 ce_0 rfl rfl ⟨Nat.le_of_ble_eq_true rfl, Nat.le_of_ble_eq_true rfl⟩ ⟨Nat.le_of_ble_eq_true rfl, Nat.le_of_ble_eq_true rfl⟩ rfl (Nat.le_of_ble_eq_true rfl) dL_acts_636 ?_
      refine j_icmp_ne C 664 dL_acts_639 (by decide) hf (fun y15 hf => ?_) (fun y15 hf => ?_)
      · refine j_sub [0, 1, 3] rfl ?_
        exact w_L_acts_664 C hr hk a v3 v15 hf
      · refine j_sub [0, 1, 2, 3] rfl ?_
        exact w_L_acts_642 C hr hk a v3 v14 v15 hf
set_option maxRecDepth 100000 in
set_option maxHeartbeats 4000000 in
theorem w_L_acts_596 {b : MS} {p : Program} {l : Launch} {e : Env} {s : State} {m : MethodId} {args : Array Value} {below : List Frame} {meth : Method} {c : Code} {G : GT} {A : Nat → Prop} {ad : Nat → Nat} (C : CX G A RL cL_acts 18 p s m args c) (hr : meth.sig.returnType = (some .boolean)) (hk : meth.locks = false) {rr : Int32 × KS}   (a : KS) (v3 : Int64) (v14 : Int32) (v15 : Int32) (s0 : Int32) (s1 : Int32) (hf : f_L_acts_596 a v3 v14 v15 s0 s1 = some rr) : J p l e (RM 7) s m args below meth c G A 18 (MQ below (QV (some (.int rr.1)) (PosW G ad rr.2 b A) A) args s 0 0 A) 0 0 ad a b 596 [(0, .ref (ad 0)), (3, .long v3), (14, .int v14), (15, .int v15)] [.int s1, .int s0] := by
  unfold f_L_acts_596 at hf
  refine j_icmp_ne C 664 dL_acts_596 (by decide) hf (fun y1 hf => ?_) (fun y1 hf => ?_)
  · refine j_sub [0, 1, 3] rfl ?_
    exact w_L_acts_664 C hr hk a v3 v15 hf
  · refine j_iload C 2 rfl dL_acts_599 ?_
    refine j_iconst (v := 5) C (by decide) dL_acts_601 ?_
    refine j_icmp_ne C 613 dL_acts_602 (by decide) hf (fun y2 hf => ?_) (fun y2 hf => ?_)
    · refine j_sub [0, 1, 2, 3] rfl ?_
      exact w_L_acts_613 C hr hk a v3 v14 v15 hf
    · refine j_aload_n C 0 rfl dL_acts_605 ?_
      obtain ⟨z3, h4, hf⟩ := bnd_some hf
      refine j_callV (q := 0) (As := []) (rest := []) C (k_X8_mode h4) cw_X8_mode ml_L_61 m_0 ce_0 rfl rfl ⟨Nat.le_of_ble_eq_true rfl, Nat.le_of_ble_eq_true rfl⟩ ⟨Nat.le_of_ble_eq_true rfl, Nat.le_of_ble_eq_true rfl⟩ rfl (Nat.le_of_ble_eq_true rfl) dL_acts_606 ?_
      refine j_iconst (v := 2) C (by decide) dL_acts_609 ?_
      refine j_icmp_ne C 664 dL_acts_610 (by decide) hf (fun y6 hf => ?_) (fun y6 hf => ?_)
      · refine j_sub [0, 1, 3] rfl ?_
        exact w_L_acts_664 C hr hk a v3 v15 hf
      · refine j_sub [0, 1, 2, 3] rfl ?_
        exact w_L_acts_613 C hr hk a v3 v14 v15 hf
set_option maxRecDepth 100000 in
set_option maxHeartbeats 4000000 in
theorem w_L_acts_559 {b : MS} {p : Program} {l : Launch} {e : Env} {s : State} {m : MethodId} {args : Array Value} {below : List Frame} {meth : Method} {c : Code} {G : GT} {A : Nat → Prop} {ad : Nat → Nat} (C : CX G A RL cL_acts 18 p s m args c) (hr : meth.sig.returnType = (some .boolean)) (hk : meth.locks = false) {rr : Int32 × KS}   (a : KS) (v3 : Int64) (v5 : Int32) (v14 : Int32) (v15 : Int32) (s0 : Int32) (hf : f_L_acts_559 a v3 v5 v14 v15 s0 = some rr) : J p l e (RM 7) s m args below meth c G A 18 (MQ below (QV (some (.int rr.1)) (PosW G ad rr.2 b A) A) args s 0 0 A) 0 0 ad a b 559 [(0, .ref (ad 0)), (3, .long v3), (5, .int v5), (14, .int v14), (15, .int v15)] [.int s0] := by
  unfold f_L_acts_559 at hf
  refine j_istore (lv' := [(16, .int s0), (0, .ref (ad 0)), (3, .long v3), (5, .int v5), (14, .int v14), (15, .int v15)]) C dL_acts_559 (by decide) rfl ?_
  refine j_iload C 0 rfl dL_acts_561 ?_
  refine j_if_eq C 664 dL_acts_563 (by decide) hf (fun y1 hf => ?_) (fun y1 hf => ?_)
  · refine j_sub [1, 2, 5] rfl ?_
    exact w_L_acts_664 C hr hk a v3 v15 hf
  · refine j_aload_n C 1 rfl dL_acts_566 ?_
    obtain ⟨z2, h3, hf⟩ := bnd_some hf
    refine j_callV (q := 0) (As := []) (rest := []) C (k_X8_logged h3) cw_X8_logged ml_L_55 m_0 ce_0 rfl rfl ⟨Nat.le_of_ble_eq_true rfl, Nat.le_of_ble_eq_true rfl⟩ ⟨Nat.le_of_ble_eq_true rfl, Nat.le_of_ble_eq_true rfl⟩ rfl (Nat.le_of_ble_eq_true rfl) dL_acts_567 ?_
    refine j_iload C 5 rfl dL_acts_570 ?_
    refine j_if_eq C 594 dL_acts_572 (by decide) hf (fun y5 hf => ?_) (fun y5 hf => ?_)
    · refine j_iload C 3 rfl dL_acts_594 ?_
      refine j_sub [1, 2, 4, 5] rfl ?_
      exact w_L_acts_596 C hr hk a v3 v14 v15 z2 v5 hf
    · refine j_iload C 3 rfl dL_acts_575 ?_
      refine j_bipush (v := 8) C (by decide) dL_acts_577 ?_
      refine j_icmp_ge C 589 dL_acts_579 (by decide) hf (fun y6 hf => ?_) (fun y6 hf => ?_)
      · refine j_bipush (v := 8) C (by decide) dL_acts_589 ?_
        refine j_goto C 596 dL_acts_591 (by decide) ?_
        refine j_sub [1, 2, 4, 5] rfl ?_
        exact w_L_acts_596 C hr hk a v3 v14 v15 z2 8 hf
      · refine j_iload C 3 rfl dL_acts_582 ?_
        refine j_iconst (v := 1) C (by decide) dL_acts_584 ?_
        refine j_iadd C dL_acts_585 ?_
        refine j_goto C 596 dL_acts_586 (by decide) ?_
        refine j_sub [1, 2, 4, 5] rfl ?_
        exact w_L_acts_596 C hr hk a v3 v14 v15 z2 (v5 + 1) hf
set_option maxRecDepth 100000 in
set_option maxHeartbeats 4000000 in
theorem w_L_acts_558 {b : MS} {p : Program} {l : Launch} {e : Env} {s : State} {m : MethodId} {args : Array Value} {below : List Frame} {meth : Method} {c : Code} {G : GT} {A : Nat → Prop} {ad : Nat → Nat} (C : CX G A RL cL_acts 18 p s m args c) (hr : meth.sig.returnType = (some .boolean)) (hk : meth.locks = false) {rr : Int32 × KS}   (a : KS) (v3 : Int64) (v5 : Int32) (v14 : Int32) (v15 : Int32) (hf : f_L_acts_558 a v3 v5 v14 v15 = some rr) : J p l e (RM 7) s m args below meth c G A 18 (MQ below (QV (some (.int rr.1)) (PosW G ad rr.2 b A) A) args s 0 0 A) 0 0 ad a b 558 [(0, .ref (ad 0)), (3, .long v3), (5, .int v5), (14, .int v14), (15, .int v15)] [] := by
  unfold f_L_acts_558 at hf
  refine j_iconst (v := 0) C (by decide) dL_acts_558 ?_
  refine j_sub [0, 1, 2, 3, 4] rfl ?_
  exact w_L_acts_559 C hr hk a v3 v5 v14 v15 0 hf
set_option maxRecDepth 100000 in
set_option maxHeartbeats 4000000 in
theorem w_L_acts_542 {b : MS} {p : Program} {l : Launch} {e : Env} {s : State} {m : MethodId} {args : Array Value} {below : List Frame} {meth : Method} {c : Code} {G : GT} {A : Nat → Prop} {ad : Nat → Nat} (C : CX G A RL cL_acts 18 p s m args c) (hr : meth.sig.returnType = (some .boolean)) (hk : meth.locks = false) {rr : Int32 × KS}   (a : KS) (v3 : Int64) (v5 : Int32) (v14 : Int32) (v15 : Int32) (hf : f_L_acts_542 a v3 v5 v14 v15 = some rr) : J p l e (RM 7) s m args below meth c G A 18 (MQ below (QV (some (.int rr.1)) (PosW G ad rr.2 b A) A) args s 0 0 A) 0 0 ad a b 542 [(0, .ref (ad 0)), (3, .long v3), (5, .int v5), (14, .int v14), (15, .int v15)] [] := by
  unfold f_L_acts_542 at hf
  refine j_iload C 3 rfl dL_acts_542 ?_
  refine j_if_lt C 558 dL_acts_544 (by decide) hf (fun y1 hf => ?_) (fun y1 hf => ?_)
  · refine j_sub [0, 1, 2, 3, 4] rfl ?_
    exact w_L_acts_558 C hr hk a v3 v5 v14 v15 hf
  · refine j_iload C 3 rfl dL_acts_547 ?_
    refine j_bipush (v := 9) C (by decide) dL_acts_549 ?_
    refine j_icmp_gt C 558 dL_acts_551 (by decide) hf (fun y2 hf => ?_) (fun y2 hf => ?_)
    · refine j_sub [0, 1, 2, 3, 4] rfl ?_
      exact w_L_acts_558 C hr hk a v3 v5 v14 v15 hf
    · refine j_iconst (v := 1) C (by decide) dL_acts_554 ?_
      refine j_goto C 559 dL_acts_555 (by decide) ?_
      refine j_sub [0, 1, 2, 3, 4] rfl ?_
      exact w_L_acts_559 C hr hk a v3 v5 v14 v15 1 hf
set_option maxRecDepth 100000 in
set_option maxHeartbeats 4000000 in
theorem w_L_acts_531 {b : MS} {p : Program} {l : Launch} {e : Env} {s : State} {m : MethodId} {args : Array Value} {below : List Frame} {meth : Method} {c : Code} {G : GT} {A : Nat → Prop} {ad : Nat → Nat} (C : CX G A RL cL_acts 18 p s m args c) (hr : meth.sig.returnType = (some .boolean)) (hk : meth.locks = false) {rr : Int32 × KS}   (a : KS) (v3 : Int64) (v5 : Int32) (v7 : Int32) (v14 : Int32) (v15 : Int32) (hf : f_L_acts_531 a v3 v5 v7 v14 v15 = some rr) : J p l e (RM 7) s m args below meth c G A 18 (MQ below (QV (some (.int rr.1)) (PosW G ad rr.2 b A) A) args s 0 0 A) 0 0 ad a b 531 [(0, .ref (ad 0)), (3, .long v3), (5, .int v5), (7, .int v7), (14, .int v14), (15, .int v15)] [] := by
  unfold f_L_acts_531 at hf
  refine j_iload C 3 rfl dL_acts_531 ?_
  refine j_if_eq C 542 dL_acts_533 (by decide) hf (fun y1 hf => ?_) (fun y1 hf => ?_)
  · refine j_sub [0, 1, 2, 4, 5] rfl ?_
    exact w_L_acts_542 C hr hk a v3 v5 v14 v15 hf
  · refine j_iload C 4 rfl dL_acts_536 ?_
    refine j_iconst (v := 5) C (by decide) dL_acts_538 ?_
    refine j_icmp_eq C 558 dL_acts_539 (by decide) hf (fun y2 hf => ?_) (fun y2 hf => ?_)
    · refine j_sub [0, 1, 2, 4, 5] rfl ?_
      exact w_L_acts_558 C hr hk a v3 v5 v14 v15 hf
    · refine j_sub [0, 1, 2, 4, 5] rfl ?_
      exact w_L_acts_542 C hr hk a v3 v5 v14 v15 hf
set_option maxRecDepth 100000 in
set_option maxHeartbeats 4000000 in
theorem w_L_acts_505 {b : MS} {p : Program} {l : Launch} {e : Env} {s : State} {m : MethodId} {args : Array Value} {below : List Frame} {meth : Method} {c : Code} {G : GT} {A : Nat → Prop} {ad : Nat → Nat} (C : CX G A RL cL_acts 18 p s m args c) (hr : meth.sig.returnType = (some .boolean)) (hk : meth.locks = false) {rr : Int32 × KS}   (a : KS) (v3 : Int64) (v5 : Int32) (v6 : Int32) (v7 : Int32) (v14 : Int32) (s0 : Int32) (hf : f_L_acts_505 a v3 v5 v6 v7 v14 s0 = some rr) : J p l e (RM 7) s m args below meth c G A 18 (MQ below (QV (some (.int rr.1)) (PosW G ad rr.2 b A) A) args s 0 0 A) 0 0 ad a b 505 [(0, .ref (ad 0)), (3, .long v3), (5, .int v5), (6, .int v6), (7, .int v7), (14, .int v14)] [.int s0] := by
  unfold f_L_acts_505 at hf
  refine j_istore (lv' := [(15, .int s0), (0, .ref (ad 0)), (3, .long v3), (5, .int v5), (6, .int v6), (7, .int v7), (14, .int v14)]) C dL_acts_505 (by decide) rfl ?_
  refine j_iload C 0 rfl dL_acts_507 ?_
  refine j_if_ne C 531 dL_acts_509 (by decide) hf (fun y1 hf => ?_) (fun y1 hf => ?_)
  · refine j_sub [1, 2, 3, 5, 6, 0] rfl ?_
    exact w_L_acts_531 C hr hk a v3 v5 v7 v14 s0 hf
  · refine j_aload_n C 1 rfl dL_acts_512 ?_
    obtain ⟨z2, h3, hf⟩ := bnd_some hf
    refine j_callS (As := [.ref (ad 0)]) (rest := []) C (k_L_values h3) cw_L_values ml_L_100 rfl ⟨Nat.le_of_ble_eq_true rfl, Nat.le_of_ble_eq_true rfl⟩ ⟨Nat.le_of_ble_eq_true rfl, Nat.le_of_ble_eq_true rfl⟩ rfl (Nat.le_of_ble_eq_true rfl) dL_acts_513 ?_
    refine j_lload_n C 2 rfl dL_acts_516 ?_
    refine j_lcmp C dL_acts_517 ?_
    refine j_if_ne C 558 dL_acts_518 (by decide) hf (fun y5 hf => ?_) (fun y5 hf => ?_)
    · refine j_sub [1, 2, 3, 6, 0] rfl ?_
      exact w_L_acts_558 C hr hk a v3 v5 v14 s0 hf
    · refine j_aload_n C 1 rfl dL_acts_521 ?_
      refine j_iconst (v := 2) C (by decide) dL_acts_522 ?_
      obtain ⟨z6, h7, hf⟩ := bnd_some hf
      obtain ⟨y8, hf⟩ := gd_some hf
      have y8 := of_decide_eq_true y8
      refine j_callV (q := 0) (As := [.int 2]) (rest := []) C (k_X8_events h7 y8) cw_X8_events ml_L_104 m_0 ce_0 rfl rfl ⟨Nat.le_of_ble_eq_true rfl, Nat.le_of_ble_eq_true rfl⟩ ⟨Nat.le_of_ble_eq_true rfl, Nat.le_of_ble_eq_true rfl⟩ rfl (Nat.le_of_ble_eq_true rfl) dL_acts_523 ?_
      refine j_iload C 4 rfl dL_acts_526 ?_
      refine j_icmp_ne C 558 dL_acts_528 (by decide) hf (fun y9 hf => ?_) (fun y9 hf => ?_)
      · refine j_sub [1, 2, 3, 6, 0] rfl ?_
        exact w_L_acts_558 C hr hk a v3 v5 v14 s0 hf
      · refine j_sub [1, 2, 3, 5, 6, 0] rfl ?_
        exact w_L_acts_531 C hr hk a v3 v5 v7 v14 s0 hf
set_option maxRecDepth 100000 in
set_option maxHeartbeats 4000000 in
theorem w_L_acts_504 {b : MS} {p : Program} {l : Launch} {e : Env} {s : State} {m : MethodId} {args : Array Value} {below : List Frame} {meth : Method} {c : Code} {G : GT} {A : Nat → Prop} {ad : Nat → Nat} (C : CX G A RL cL_acts 18 p s m args c) (hr : meth.sig.returnType = (some .boolean)) (hk : meth.locks = false) {rr : Int32 × KS}   (a : KS) (v3 : Int64) (v5 : Int32) (v6 : Int32) (v7 : Int32) (v14 : Int32) (hf : f_L_acts_504 a v3 v5 v6 v7 v14 = some rr) : J p l e (RM 7) s m args below meth c G A 18 (MQ below (QV (some (.int rr.1)) (PosW G ad rr.2 b A) A) args s 0 0 A) 0 0 ad a b 504 [(0, .ref (ad 0)), (3, .long v3), (5, .int v5), (6, .int v6), (7, .int v7), (14, .int v14)] [] := by
  unfold f_L_acts_504 at hf
  refine j_iconst (v := 0) C (by decide) dL_acts_504 ?_
  refine j_sub [0, 1, 2, 3, 4, 5] rfl ?_
  exact w_L_acts_505 C hr hk a v3 v5 v6 v7 v14 0 hf
set_option maxRecDepth 100000 in
set_option maxHeartbeats 4000000 in
theorem k_L_acts {l : Launch} {G : GT} {ad : Nat → Nat} {a : KS} {v1 : Int32} {v2 : Int32} {b : MS} {rr : Int32 × KS} (hf : f_L_acts a v1 v2 = some rr) : MT l G yL_acts cL_acts 18 (some .boolean) (RM 7) [.ref (ad 0), .int v1, .int v2] ad a b (some (.int rr.1)) rr.2 b := by
  refine MT_of (by decide) (Nat.le_of_ble_eq_true rfl) ?_
  intro p e s m args below meth c A C hr hk
  unfold f_L_acts at hf
  refine j_aload_n C 0 rfl dL_acts_0 ?_
  obtain ⟨z1, h2, hf⟩ := bnd_some hf
  refine j_callS (As := [.ref (ad 0)]) (rest := []) C (k_L_values h2) cw_L_values ml_L_100 rfl ⟨Nat.le_of_ble_eq_true rfl, Nat.le_of_ble_eq_true rfl⟩ ⟨Nat.le_of_ble_eq_true rfl, Nat.le_of_ble_eq_true rfl⟩ rfl (Nat.le_of_ble_eq_true rfl) dL_acts_1 ?_
  refine j_lstore_n (i := 3) (lv' := [(3, .long z1), (0, .ref (ad 0)), (1, .int v1), (2, .int v2)]) C dL_acts_4 rfl (by decide) rfl ?_
  refine j_aload_n C 1 rfl dL_acts_5 ?_
  obtain ⟨z4, h5, hf⟩ := bnd_some hf
  refine j_callV (q := 0) (As := []) (rest := []) C (k_X8_logged h5) cw_X8_logged ml_L_55 m_0 ce_0 rfl rfl ⟨Nat.le_of_ble_eq_true rfl, Nat.le_of_ble_eq_true rfl⟩ ⟨Nat.le_of_ble_eq_true rfl, Nat.le_of_ble_eq_true rfl⟩ rfl (Nat.le_of_ble_eq_true rfl) dL_acts_6 ?_
  refine j_istore (lv' := [(5, .int z4), (3, .long z1), (0, .ref (ad 0)), (1, .int v1), (2, .int v2)]) C dL_acts_9 (by decide) rfl ?_
  refine j_aload_n C 2 rfl dL_acts_11 ?_
  refine j_iconst (v := 2) C (by decide) dL_acts_12 ?_
  obtain ⟨z7, h8, hf⟩ := bnd_some hf
  obtain ⟨y9, hf⟩ := gd_some hf
  have y9 := of_decide_eq_true y9
  refine j_callV (q := 0) (As := [.int 2]) (rest := []) C (k_X8_events h8 y9) cw_X8_events ml_L_104 m_0 ce_0 rfl rfl ⟨Nat.le_of_ble_eq_true rfl, Nat.le_of_ble_eq_true rfl⟩ ⟨Nat.le_of_ble_eq_true rfl, Nat.le_of_ble_eq_true rfl⟩ rfl (Nat.le_of_ble_eq_true rfl) dL_acts_13 ?_
  refine j_istore (lv' := [(6, .int z7.2), (5, .int z4), (3, .long z1), (0, .ref (ad 0)), (1, .int v1), (2, .int v2)]) C dL_acts_16 (by decide) rfl ?_
  refine j_aload_n C 3 rfl dL_acts_18 ?_
  obtain ⟨z10, h11, hf⟩ := bnd_some hf
  refine j_callV (q := 0) (As := []) (rest := []) C (k_X8_barred h11) cw_X8_barred ml_L_58 m_0 ce_0 rfl rfl ⟨Nat.le_of_ble_eq_true rfl, Nat.le_of_ble_eq_true rfl⟩ ⟨Nat.le_of_ble_eq_true rfl, Nat.le_of_ble_eq_true rfl⟩ rfl (Nat.le_of_ble_eq_true rfl) dL_acts_19 ?_
  refine j_istore (lv' := [(7, .int z10), (6, .int z7.2), (5, .int z4), (3, .long z1), (0, .ref (ad 0)), (1, .int v1), (2, .int v2)]) C dL_acts_22 (by decide) rfl ?_
  refine j_iload_n C 5 rfl dL_acts_24 ?_
  refine j_bipush (v := 16) C (by decide) dL_acts_25 ?_
  obtain ⟨z13, h14, hf⟩ := bnd_some hf
  refine j_callS (As := [.int v1, .int 16]) (rest := []) C (k_L_up h14) cw_L_up ml_L_29 rfl ⟨Nat.le_of_ble_eq_true rfl, Nat.le_of_ble_eq_true rfl⟩ ⟨Nat.le_of_ble_eq_true rfl, Nat.le_of_ble_eq_true rfl⟩ rfl (Nat.le_of_ble_eq_true rfl) dL_acts_27 ?_
  refine j_peel (v := 0) hf (fun y16 hg => ?_) (fun y16 hf => ?_)
  · clear hf
    subst y16
    have hf := hg
    clear hg
    refine j_tin (tgt := 84) C dL_acts_30 (by decide) (by decide) rfl (by decide) ?_
    refine j_aload_n C 4 rfl dL_acts_84 ?_
    refine j_iload_n C 6 rfl dL_acts_85 ?_
    refine j_iconst (v := 2) C (by decide) dL_acts_86 ?_
    obtain ⟨z17, h18, hf⟩ := bnd_some hf
    refine j_callS (As := [.int v2, .int 2]) (rest := [.ref (ad 0)]) C (k_L_up h18) cw_L_up ml_L_29 rfl ⟨Nat.le_of_ble_eq_true rfl, Nat.le_of_ble_eq_true rfl⟩ ⟨Nat.le_of_ble_eq_true rfl, Nat.le_of_ble_eq_true rfl⟩ rfl (Nat.le_of_ble_eq_true rfl) dL_acts_87 ?_
    refine j_iconst (v := 1) C (by decide) dL_acts_90 ?_
    refine j_iload_n C 6 rfl dL_acts_91 ?_
    refine j_iconst (v := 1) C (by decide) dL_acts_92 ?_
    refine j_ishr C dL_acts_93 ?_
    refine j_bipush (v := 60) C (by decide) dL_acts_94 ?_
    obtain ⟨z20, h21, hf⟩ := bnd_some hf
    refine j_callS (As := [.int (v2 >>> (1 &&& 31)), .int 60]) (rest := [.int 1, .int z17, .ref (ad 0)]) C (k_L_up h21) cw_L_up ml_L_29 rfl ⟨Nat.le_of_ble_eq_true rfl, Nat.le_of_ble_eq_true rfl⟩ ⟨Nat.le_of_ble_eq_true rfl, Nat.le_of_ble_eq_true rfl⟩ rfl (Nat.le_of_ble_eq_true rfl) dL_acts_96 ?_
    refine j_iadd C dL_acts_99 ?_
    obtain ⟨z23, h24, hf⟩ := bnd_some hf
    obtain ⟨y25, hf⟩ := gd_some hf
    have y25 := of_decide_eq_true y25
    refine j_callV (q := 0) (As := [.int z17, .int (1 + z20)]) (rest := []) C (k_X8_set h24 y25) cw_X8_set ml_L_107 m_0 ce_0 rfl rfl ⟨Nat.le_of_ble_eq_true rfl, Nat.le_of_ble_eq_true rfl⟩ ⟨Nat.le_of_ble_eq_true rfl, Nat.le_of_ble_eq_true rfl⟩ rfl (Nat.le_of_ble_eq_true rfl) dL_acts_100 ?_
    refine j_if_le C 119 dL_acts_103 (by decide) hf (fun y28 hf => ?_) (fun y28 hf => ?_)
    · refine j_iconst (v := 0) C (by decide) dL_acts_119 ?_
      obtain rfl := Option.some.inj hf
      exact j_zret C hr hk (by decide) ⟨Nat.le_of_ble_eq_true rfl, Nat.le_of_ble_eq_true rfl⟩ rfl dL_acts_120
    · refine j_aload_n C 4 rfl dL_acts_106 ?_
      obtain ⟨z29, h30, hf⟩ := bnd_some hf
      refine j_callS (As := [.ref (ad 0)]) (rest := []) C (k_L_values h30) cw_L_values ml_L_100 rfl ⟨Nat.le_of_ble_eq_true rfl, Nat.le_of_ble_eq_true rfl⟩ ⟨Nat.le_of_ble_eq_true rfl, Nat.le_of_ble_eq_true rfl⟩ rfl (Nat.le_of_ble_eq_true rfl) dL_acts_107 ?_
      refine j_lload_n C 3 rfl dL_acts_110 ?_
      refine j_lcmp C dL_acts_111 ?_
      refine j_if_ne C 119 dL_acts_112 (by decide) hf (fun y32 hf => ?_) (fun y32 hf => ?_)
      · refine j_iconst (v := 0) C (by decide) dL_acts_119 ?_
        obtain rfl := Option.some.inj hf
        exact j_zret C hr hk (by decide) ⟨Nat.le_of_ble_eq_true rfl, Nat.le_of_ble_eq_true rfl⟩ rfl dL_acts_120
      · refine j_iconst (v := 1) C (by decide) dL_acts_115 ?_
        refine j_goto C 120 dL_acts_116 (by decide) ?_
        obtain rfl := Option.some.inj hf
        exact j_zret C hr hk (by decide) ⟨Nat.le_of_ble_eq_true rfl, Nat.le_of_ble_eq_true rfl⟩ rfl dL_acts_120
  refine j_peel (v := 1) hf (fun y33 hg => ?_) (fun y33 hf => ?_)
  · clear hf
    subst y33
    have hf := hg
    clear hg
    refine j_tin (tgt := 121) C dL_acts_30 (by decide) (by decide) rfl (by decide) ?_
    refine j_aload_n C 4 rfl dL_acts_121 ?_
    refine j_iconst (v := 2) C (by decide) dL_acts_122 ?_
    refine j_iload_n C 6 rfl dL_acts_123 ?_
    refine j_iconst (v := 1) C (by decide) dL_acts_124 ?_
    refine j_iand C dL_acts_125 ?_
    obtain ⟨z34, h35, hf⟩ := bnd_some hf
    obtain ⟨y36, hf⟩ := gd_some hf
    have y36 := of_decide_eq_true y36
    refine j_callV (q := 0) (As := [.int 2, .int (v2 &&& 1)]) (rest := []) C (k_X8_set h35 y36) cw_X8_set ml_L_107 m_0 ce_0 rfl rfl ⟨Nat.le_of_ble_eq_true rfl, Nat.le_of_ble_eq_true rfl⟩ ⟨Nat.le_of_ble_eq_true rfl, Nat.le_of_ble_eq_true rfl⟩ rfl (Nat.le_of_ble_eq_true rfl) dL_acts_126 ?_
    refine j_if_lt C 145 dL_acts_129 (by decide) hf (fun y39 hf => ?_) (fun y39 hf => ?_)
    · refine j_iconst (v := 0) C (by decide) dL_acts_145 ?_
      obtain rfl := Option.some.inj hf
      exact j_zret C hr hk (by decide) ⟨Nat.le_of_ble_eq_true rfl, Nat.le_of_ble_eq_true rfl⟩ rfl dL_acts_146
    · refine j_aload_n C 4 rfl dL_acts_132 ?_
      obtain ⟨z40, h41, hf⟩ := bnd_some hf
      refine j_callS (As := [.ref (ad 0)]) (rest := []) C (k_L_values h41) cw_L_values ml_L_100 rfl ⟨Nat.le_of_ble_eq_true rfl, Nat.le_of_ble_eq_true rfl⟩ ⟨Nat.le_of_ble_eq_true rfl, Nat.le_of_ble_eq_true rfl⟩ rfl (Nat.le_of_ble_eq_true rfl) dL_acts_133 ?_
      refine j_lload_n C 3 rfl dL_acts_136 ?_
      refine j_lcmp C dL_acts_137 ?_
      refine j_if_ne C 145 dL_acts_138 (by decide) hf (fun y43 hf => ?_) (fun y43 hf => ?_)
      · refine j_iconst (v := 0) C (by decide) dL_acts_145 ?_
        obtain rfl := Option.some.inj hf
        exact j_zret C hr hk (by decide) ⟨Nat.le_of_ble_eq_true rfl, Nat.le_of_ble_eq_true rfl⟩ rfl dL_acts_146
      · refine j_iconst (v := 1) C (by decide) dL_acts_141 ?_
        refine j_goto C 146 dL_acts_142 (by decide) ?_
        obtain rfl := Option.some.inj hf
        exact j_zret C hr hk (by decide) ⟨Nat.le_of_ble_eq_true rfl, Nat.le_of_ble_eq_true rfl⟩ rfl dL_acts_146
  refine j_peel (v := 2) hf (fun y44 hg => ?_) (fun y44 hf => ?_)
  · clear hf
    subst y44
    have hf := hg
    clear hg
    refine j_tin (tgt := 147) C dL_acts_30 (by decide) (by decide) rfl (by decide) ?_
    refine j_aload_n C 4 rfl dL_acts_147 ?_
    obtain ⟨z45, h46, hf⟩ := bnd_some hf
    refine j_callV (q := 0) (As := []) (rest := []) C (k_X8_mode h46) cw_X8_mode ml_L_61 m_0 ce_0 rfl rfl ⟨Nat.le_of_ble_eq_true rfl, Nat.le_of_ble_eq_true rfl⟩ ⟨Nat.le_of_ble_eq_true rfl, Nat.le_of_ble_eq_true rfl⟩ rfl (Nat.le_of_ble_eq_true rfl) dL_acts_148 ?_
    refine j_istore (lv' := [(8, .int z45), (7, .int z10), (6, .int z7.2), (5, .int z4), (3, .long z1), (0, .ref (ad 0)), (1, .int v1), (2, .int v2)]) C dL_acts_151 (by decide) rfl ?_
    refine j_iload_n C 7 rfl dL_acts_153 ?_
    refine j_iconst (v := 3) C (by decide) dL_acts_154 ?_
    refine j_iand C dL_acts_155 ?_
    refine j_if_gt C 206 dL_acts_156 (by decide) hf (fun y48 hf => ?_) (fun y48 hf => ?_)
    · refine j_iconst (v := 1) C (by decide) dL_acts_206 ?_
      refine j_goto C 211 dL_acts_207 (by decide) ?_
      obtain rfl := Option.some.inj hf
      exact j_zret C hr hk (by decide) ⟨Nat.le_of_ble_eq_true rfl, Nat.le_of_ble_eq_true rfl⟩ rfl dL_acts_211
    · refine j_aload_n C 5 rfl dL_acts_159 ?_
      obtain ⟨z49, h50, hf⟩ := bnd_some hf
      refine j_callV (q := 0) (As := []) (rest := []) C (k_X8_hold h50) cw_X8_hold ml_L_110 m_0 ce_0 rfl rfl ⟨Nat.le_of_ble_eq_true rfl, Nat.le_of_ble_eq_true rfl⟩ ⟨Nat.le_of_ble_eq_true rfl, Nat.le_of_ble_eq_true rfl⟩ rfl (Nat.le_of_ble_eq_true rfl) dL_acts_160 ?_
      refine j_iload C 0 rfl dL_acts_163 ?_
      refine j_icmp_ne C 210 dL_acts_165 (by decide) hf (fun y54 hf => ?_) (fun y54 hf => ?_)
      · refine j_iconst (v := 0) C (by decide) dL_acts_210 ?_
        obtain rfl := Option.some.inj hf
        exact j_zret C hr hk (by decide) ⟨Nat.le_of_ble_eq_true rfl, Nat.le_of_ble_eq_true rfl⟩ rfl dL_acts_211
      · refine j_iload C 0 rfl dL_acts_168 ?_
        refine j_if_ne C 183 dL_acts_170 (by decide) hf (fun y55 hf => ?_) (fun y55 hf => ?_)
        · refine j_aload_n C 5 rfl dL_acts_183 ?_
          obtain ⟨z56, h57, hf⟩ := bnd_some hf
          refine j_callV (q := 0) (As := []) (rest := []) C (k_X8_mode h57) cw_X8_mode ml_L_61 m_0 ce_0 rfl rfl ⟨Nat.le_of_ble_eq_true rfl, Nat.le_of_ble_eq_true rfl⟩ ⟨Nat.le_of_ble_eq_true rfl, Nat.le_of_ble_eq_true rfl⟩ rfl (Nat.le_of_ble_eq_true rfl) dL_acts_184 ?_
          refine j_if_ne C 210 dL_acts_187 (by decide) hf (fun y59 hf => ?_) (fun y59 hf => ?_)
          · refine j_iconst (v := 0) C (by decide) dL_acts_210 ?_
            obtain rfl := Option.some.inj hf
            exact j_zret C hr hk (by decide) ⟨Nat.le_of_ble_eq_true rfl, Nat.le_of_ble_eq_true rfl⟩ rfl dL_acts_211
          · refine j_sub [5, 4] rfl ?_
            exact w_L_acts_190 C hr hk z49.2 z1 hf
        · refine j_aload_n C 5 rfl dL_acts_173 ?_
          obtain ⟨z60, h61, hf⟩ := bnd_some hf
          refine j_callV (q := 0) (As := []) (rest := []) C (k_X8_isHome h61) cw_X8_isHome ml_L_71 m_0 ce_0 rfl rfl ⟨Nat.le_of_ble_eq_true rfl, Nat.le_of_ble_eq_true rfl⟩ ⟨Nat.le_of_ble_eq_true rfl, Nat.le_of_ble_eq_true rfl⟩ rfl (Nat.le_of_ble_eq_true rfl) dL_acts_174 ?_
          refine j_if_eq C 210 dL_acts_177 (by decide) hf (fun y63 hf => ?_) (fun y63 hf => ?_)
          · refine j_iconst (v := 0) C (by decide) dL_acts_210 ?_
            obtain rfl := Option.some.inj hf
            exact j_zret C hr hk (by decide) ⟨Nat.le_of_ble_eq_true rfl, Nat.le_of_ble_eq_true rfl⟩ rfl dL_acts_211
          · refine j_goto C 190 dL_acts_180 (by decide) ?_
            refine j_sub [5, 4] rfl ?_
            exact w_L_acts_190 C hr hk z49.2 z1 hf
  refine j_peel (v := 3) hf (fun y64 hg => ?_) (fun y64 hf => ?_)
  · clear hf
    subst y64
    have hf := hg
    clear hg
    refine j_tin (tgt := 212) C dL_acts_30 (by decide) (by decide) rfl (by decide) ?_
    refine j_iconst (v := 1) C (by decide) dL_acts_212 ?_
    refine j_iload_n C 6 rfl dL_acts_213 ?_
    refine j_iload_n C 6 rfl dL_acts_214 ?_
    refine j_bipush (v := 9) C (by decide) dL_acts_215 ?_
    refine j_ishr C dL_acts_217 ?_
    refine j_iconst (v := 3) C (by decide) dL_acts_218 ?_
    refine j_iand C dL_acts_219 ?_
    refine j_if_ne C 228 dL_acts_220 (by decide) hf (fun y65 hf => ?_) (fun y65 hf => ?_)
    · refine j_bipush (v := 6) C (by decide) dL_acts_228 ?_
      refine j_sub [4, 3, 0] rfl ?_
      exact w_L_acts_230 C hr hk a z1 z10 1 v2 6 hf
    · refine j_bipush (v := 99) C (by decide) dL_acts_223 ?_
      refine j_goto C 230 dL_acts_225 (by decide) ?_
      refine j_sub [4, 3, 0] rfl ?_
      exact w_L_acts_230 C hr hk a z1 z10 1 v2 99 hf
  refine j_peel (v := 4) hf (fun y66 hg => ?_) (fun y66 hf => ?_)
  · clear hf
    subst y66
    have hf := hg
    clear hg
    refine j_tin (tgt := 212) C dL_acts_30 (by decide) (by decide) rfl (by decide) ?_
    refine j_iconst (v := 1) C (by decide) dL_acts_212 ?_
    refine j_iload_n C 6 rfl dL_acts_213 ?_
    refine j_iload_n C 6 rfl dL_acts_214 ?_
    refine j_bipush (v := 9) C (by decide) dL_acts_215 ?_
    refine j_ishr C dL_acts_217 ?_
    refine j_iconst (v := 3) C (by decide) dL_acts_218 ?_
    refine j_iand C dL_acts_219 ?_
    refine j_if_ne C 228 dL_acts_220 (by decide) hf (fun y67 hf => ?_) (fun y67 hf => ?_)
    · refine j_bipush (v := 6) C (by decide) dL_acts_228 ?_
      refine j_sub [4, 3, 0] rfl ?_
      exact w_L_acts_230 C hr hk a z1 z10 1 v2 6 hf
    · refine j_bipush (v := 99) C (by decide) dL_acts_223 ?_
      refine j_goto C 230 dL_acts_225 (by decide) ?_
      refine j_sub [4, 3, 0] rfl ?_
      exact w_L_acts_230 C hr hk a z1 z10 1 v2 99 hf
  refine j_peel (v := 5) hf (fun y68 hg => ?_) (fun y68 hf => ?_)
  · clear hf
    subst y68
    have hf := hg
    clear hg
    refine j_tin (tgt := 300) C dL_acts_30 (by decide) (by decide) rfl (by decide) ?_
    refine j_iload C 2 rfl dL_acts_300 ?_
    refine j_if_ne C 340 dL_acts_302 (by decide) hf (fun y69 hf => ?_) (fun y69 hf => ?_)
    · refine j_aload_n C 4 rfl dL_acts_340 ?_
      obtain ⟨z70, h71, hf⟩ := bnd_some hf
      obtain ⟨y72, hf⟩ := gd_some hf
      have y72 := of_decide_eq_true y72
      refine j_callV (q := 0) (As := []) (rest := []) C (k_X8_takeBack h71 y72) cw_X8_takeBack ml_L_125 m_0 ce_0 rfl rfl ⟨Nat.le_of_ble_eq_true rfl, Nat.le_of_ble_eq_true rfl⟩ ⟨Nat.le_of_ble_eq_true rfl, Nat.le_of_ble_eq_true rfl⟩ rfl (Nat.le_of_ble_eq_true rfl) dL_acts_341 ?_
      refine j_istore (lv' := [(11, .int z70.2.1), (7, .int z10), (6, .int z7.2), (5, .int z4), (3, .long z1), (0, .ref (ad 0)), (1, .int v1), (2, .int v2)]) C dL_acts_344 (by decide) rfl ?_
      refine j_iload C 0 rfl dL_acts_346 ?_
      refine j_if_le C 394 dL_acts_348 (by decide) hf (fun y75 hf => ?_) (fun y75 hf => ?_)
      · refine j_iconst (v := 0) C (by decide) dL_acts_394 ?_
        obtain rfl := Option.some.inj hf
        exact j_zret C hr hk (by decide) ⟨Nat.le_of_ble_eq_true rfl, Nat.le_of_ble_eq_true rfl⟩ rfl dL_acts_395
      · refine j_iload C 0 rfl dL_acts_351 ?_
        refine j_aload_n C 5 rfl dL_acts_353 ?_
        obtain ⟨z76, h77, hf⟩ := bnd_some hf
        refine j_callV (q := 0) (As := []) (rest := [.int z70.2.1]) C (k_X8_items h77) cw_X8_items ml_L_11 m_0 ce_0 rfl rfl ⟨Nat.le_of_ble_eq_true rfl, Nat.le_of_ble_eq_true rfl⟩ ⟨Nat.le_of_ble_eq_true rfl, Nat.le_of_ble_eq_true rfl⟩ rfl (Nat.le_of_ble_eq_true rfl) dL_acts_354 ?_
        refine j_icmp_ge C 394 dL_acts_357 (by decide) hf (fun y79 hf => ?_) (fun y79 hf => ?_)
        · refine j_iconst (v := 0) C (by decide) dL_acts_394 ?_
          obtain rfl := Option.some.inj hf
          exact j_zret C hr hk (by decide) ⟨Nat.le_of_ble_eq_true rfl, Nat.le_of_ble_eq_true rfl⟩ rfl dL_acts_395
        · refine j_aload_n C 5 rfl dL_acts_360 ?_
          refine j_iload C 0 rfl dL_acts_361 ?_
          obtain ⟨z80, h81, hf⟩ := bnd_some hf
          obtain ⟨y82, hf⟩ := gd_some hf
          have y82 := of_decide_eq_true y82
          refine j_callV (q := 0) (As := [.int z70.2.1]) (rest := []) C (k_X8_kind h81 y82) cw_X8_kind ml_L_19 m_0 ce_0 rfl rfl ⟨Nat.le_of_ble_eq_true rfl, Nat.le_of_ble_eq_true rfl⟩ ⟨Nat.le_of_ble_eq_true rfl, Nat.le_of_ble_eq_true rfl⟩ rfl (Nat.le_of_ble_eq_true rfl) dL_acts_363 ?_
          refine j_if_le C 394 dL_acts_366 (by decide) hf (fun y83 hf => ?_) (fun y83 hf => ?_)
          · refine j_iconst (v := 0) C (by decide) dL_acts_394 ?_
            obtain rfl := Option.some.inj hf
            exact j_zret C hr hk (by decide) ⟨Nat.le_of_ble_eq_true rfl, Nat.le_of_ble_eq_true rfl⟩ rfl dL_acts_395
          · refine j_aload_n C 5 rfl dL_acts_369 ?_
            obtain ⟨z84, h85, hf⟩ := bnd_some hf
            refine j_callV (q := 0) (As := []) (rest := []) C (k_X8_logged h85) cw_X8_logged ml_L_55 m_0 ce_0 rfl rfl ⟨Nat.le_of_ble_eq_true rfl, Nat.le_of_ble_eq_true rfl⟩ ⟨Nat.le_of_ble_eq_true rfl, Nat.le_of_ble_eq_true rfl⟩ rfl (Nat.le_of_ble_eq_true rfl) dL_acts_370 ?_
            refine j_iload C 3 rfl dL_acts_373 ?_
            refine j_iconst (v := 1) C (by decide) dL_acts_375 ?_
            refine j_isub C dL_acts_376 ?_
            refine j_icmp_ne C 394 dL_acts_377 (by decide) hf (fun y87 hf => ?_) (fun y87 hf => ?_)
            · refine j_iconst (v := 0) C (by decide) dL_acts_394 ?_
              obtain rfl := Option.some.inj hf
              exact j_zret C hr hk (by decide) ⟨Nat.le_of_ble_eq_true rfl, Nat.le_of_ble_eq_true rfl⟩ rfl dL_acts_395
            · refine j_aload_n C 5 rfl dL_acts_380 ?_
              refine j_iconst (v := 2) C (by decide) dL_acts_381 ?_
              obtain ⟨z88, h89, hf⟩ := bnd_some hf
              obtain ⟨y90, hf⟩ := gd_some hf
              have y90 := of_decide_eq_true y90
              refine j_callV (q := 0) (As := [.int 2]) (rest := []) C (k_X8_events h89 y90) cw_X8_events ml_L_104 m_0 ce_0 rfl rfl ⟨Nat.le_of_ble_eq_true rfl, Nat.le_of_ble_eq_true rfl⟩ ⟨Nat.le_of_ble_eq_true rfl, Nat.le_of_ble_eq_true rfl⟩ rfl (Nat.le_of_ble_eq_true rfl) dL_acts_382 ?_
              refine j_iload C 2 rfl dL_acts_385 ?_
              refine j_icmp_ne C 394 dL_acts_387 (by decide) hf (fun y91 hf => ?_) (fun y91 hf => ?_)
              · refine j_iconst (v := 0) C (by decide) dL_acts_394 ?_
                obtain rfl := Option.some.inj hf
                exact j_zret C hr hk (by decide) ⟨Nat.le_of_ble_eq_true rfl, Nat.le_of_ble_eq_true rfl⟩ rfl dL_acts_395
              · refine j_iconst (v := 1) C (by decide) dL_acts_390 ?_
                refine j_goto C 395 dL_acts_391 (by decide) ?_
                obtain rfl := Option.some.inj hf
                exact j_zret C hr hk (by decide) ⟨Nat.le_of_ble_eq_true rfl, Nat.le_of_ble_eq_true rfl⟩ rfl dL_acts_395
    · refine j_aload_n C 4 rfl dL_acts_305 ?_
      refine j_iload_n C 6 rfl dL_acts_306 ?_
      refine j_iconst (v := 1) C (by decide) dL_acts_307 ?_
      refine j_iand C dL_acts_308 ?_
      obtain ⟨z92, h93, hf⟩ := bnd_some hf
      obtain ⟨y94, hf⟩ := gd_some hf
      have y94 := of_decide_eq_true y94
      refine j_callV (q := 0) (As := [.int (v2 &&& 1)]) (rest := []) C (k_X8_savePreset h93 y94) cw_X8_savePreset ml_L_119 m_0 ce_0 rfl rfl ⟨Nat.le_of_ble_eq_true rfl, Nat.le_of_ble_eq_true rfl⟩ ⟨Nat.le_of_ble_eq_true rfl, Nat.le_of_ble_eq_true rfl⟩ rfl (Nat.le_of_ble_eq_true rfl) dL_acts_309 ?_
      refine j_if_lt C 338 dL_acts_312 (by decide) hf (fun y97 hf => ?_) (fun y97 hf => ?_)
      · refine j_iconst (v := 0) C (by decide) dL_acts_338 ?_
        obtain rfl := Option.some.inj hf
        exact j_zret C hr hk (by decide) ⟨Nat.le_of_ble_eq_true rfl, Nat.le_of_ble_eq_true rfl⟩ rfl dL_acts_339
      · refine j_aload_n C 4 rfl dL_acts_315 ?_
        refine j_iload_n C 6 rfl dL_acts_316 ?_
        refine j_iconst (v := 1) C (by decide) dL_acts_317 ?_
        refine j_iand C dL_acts_318 ?_
        obtain ⟨z98, h99, hf⟩ := bnd_some hf
        obtain ⟨y100, hf⟩ := gd_some hf
        have y100 := of_decide_eq_true y100
        refine j_callV (q := 0) (As := [.int (v2 &&& 1)]) (rest := []) C (k_X8_loadPreset h99 y100) cw_X8_loadPreset ml_L_122 m_0 ce_0 rfl rfl ⟨Nat.le_of_ble_eq_true rfl, Nat.le_of_ble_eq_true rfl⟩ ⟨Nat.le_of_ble_eq_true rfl, Nat.le_of_ble_eq_true rfl⟩ rfl (Nat.le_of_ble_eq_true rfl) dL_acts_319 ?_
        refine j_if_ne C 338 dL_acts_322 (by decide) hf (fun y103 hf => ?_) (fun y103 hf => ?_)
        · refine j_iconst (v := 0) C (by decide) dL_acts_338 ?_
          obtain rfl := Option.some.inj hf
          exact j_zret C hr hk (by decide) ⟨Nat.le_of_ble_eq_true rfl, Nat.le_of_ble_eq_true rfl⟩ rfl dL_acts_339
        · refine j_aload_n C 4 rfl dL_acts_325 ?_
          obtain ⟨z104, h105, hf⟩ := bnd_some hf
          refine j_callS (As := [.ref (ad 0)]) (rest := []) C (k_L_values h105) cw_L_values ml_L_100 rfl ⟨Nat.le_of_ble_eq_true rfl, Nat.le_of_ble_eq_true rfl⟩ ⟨Nat.le_of_ble_eq_true rfl, Nat.le_of_ble_eq_true rfl⟩ rfl (Nat.le_of_ble_eq_true rfl) dL_acts_326 ?_
          refine j_lload_n C 3 rfl dL_acts_329 ?_
          refine j_lcmp C dL_acts_330 ?_
          refine j_if_ne C 338 dL_acts_331 (by decide) hf (fun y107 hf => ?_) (fun y107 hf => ?_)
          · refine j_iconst (v := 0) C (by decide) dL_acts_338 ?_
            obtain rfl := Option.some.inj hf
            exact j_zret C hr hk (by decide) ⟨Nat.le_of_ble_eq_true rfl, Nat.le_of_ble_eq_true rfl⟩ rfl dL_acts_339
          · refine j_iconst (v := 1) C (by decide) dL_acts_334 ?_
            refine j_goto C 339 dL_acts_335 (by decide) ?_
            obtain rfl := Option.some.inj hf
            exact j_zret C hr hk (by decide) ⟨Nat.le_of_ble_eq_true rfl, Nat.le_of_ble_eq_true rfl⟩ rfl dL_acts_339
  refine j_peel (v := 6) hf (fun y108 hg => ?_) (fun y108 hf => ?_)
  · clear hf
    subst y108
    have hf := hg
    clear hg
    refine j_tin (tgt := 396) C dL_acts_30 (by decide) (by decide) rfl (by decide) ?_
    refine j_iload_n C 6 rfl dL_acts_396 ?_
    refine j_iload_n C 6 rfl dL_acts_397 ?_
    refine j_bipush (v := 9) C (by decide) dL_acts_398 ?_
    refine j_ishr C dL_acts_400 ?_
    refine j_iconst (v := 1) C (by decide) dL_acts_401 ?_
    refine j_iand C dL_acts_402 ?_
    refine j_if_ne C 411 dL_acts_403 (by decide) hf (fun y109 hf => ?_) (fun y109 hf => ?_)
    · refine j_bipush (v := 13) C (by decide) dL_acts_411 ?_
      refine j_sub [4, 6, 3] rfl ?_
      exact w_L_acts_413 C hr hk a v2 z1 v2 13 hf
    · refine j_bipush (v := 101) C (by decide) dL_acts_406 ?_
      refine j_goto C 413 dL_acts_408 (by decide) ?_
      refine j_sub [4, 6, 3] rfl ?_
      exact w_L_acts_413 C hr hk a v2 z1 v2 101 hf
  refine j_peel (v := 7) hf (fun y110 hg => ?_) (fun y110 hf => ?_)
  · clear hf
    subst y110
    have hf := hg
    clear hg
    refine j_tin (tgt := 396) C dL_acts_30 (by decide) (by decide) rfl (by decide) ?_
    refine j_iload_n C 6 rfl dL_acts_396 ?_
    refine j_iload_n C 6 rfl dL_acts_397 ?_
    refine j_bipush (v := 9) C (by decide) dL_acts_398 ?_
    refine j_ishr C dL_acts_400 ?_
    refine j_iconst (v := 1) C (by decide) dL_acts_401 ?_
    refine j_iand C dL_acts_402 ?_
    refine j_if_ne C 411 dL_acts_403 (by decide) hf (fun y111 hf => ?_) (fun y111 hf => ?_)
    · refine j_bipush (v := 13) C (by decide) dL_acts_411 ?_
      refine j_sub [4, 6, 3] rfl ?_
      exact w_L_acts_413 C hr hk a v2 z1 v2 13 hf
    · refine j_bipush (v := 101) C (by decide) dL_acts_406 ?_
      refine j_goto C 413 dL_acts_408 (by decide) ?_
      refine j_sub [4, 6, 3] rfl ?_
      exact w_L_acts_413 C hr hk a v2 z1 v2 101 hf
  refine j_peel (v := 8) hf (fun y112 hg => ?_) (fun y112 hf => ?_)
  · clear hf
    subst y112
    have hf := hg
    clear hg
    refine j_tin (tgt := 396) C dL_acts_30 (by decide) (by decide) rfl (by decide) ?_
    refine j_iload_n C 6 rfl dL_acts_396 ?_
    refine j_iload_n C 6 rfl dL_acts_397 ?_
    refine j_bipush (v := 9) C (by decide) dL_acts_398 ?_
    refine j_ishr C dL_acts_400 ?_
    refine j_iconst (v := 1) C (by decide) dL_acts_401 ?_
    refine j_iand C dL_acts_402 ?_
    refine j_if_ne C 411 dL_acts_403 (by decide) hf (fun y113 hf => ?_) (fun y113 hf => ?_)
    · refine j_bipush (v := 13) C (by decide) dL_acts_411 ?_
      refine j_sub [4, 6, 3] rfl ?_
      exact w_L_acts_413 C hr hk a v2 z1 v2 13 hf
    · refine j_bipush (v := 101) C (by decide) dL_acts_406 ?_
      refine j_goto C 413 dL_acts_408 (by decide) ?_
      refine j_sub [4, 6, 3] rfl ?_
      exact w_L_acts_413 C hr hk a v2 z1 v2 101 hf
  refine j_peel (v := 9) hf (fun y114 hg => ?_) (fun y114 hf => ?_)
  · clear hf
    subst y114
    have hf := hg
    clear hg
    refine j_tin (tgt := 396) C dL_acts_30 (by decide) (by decide) rfl (by decide) ?_
    refine j_iload_n C 6 rfl dL_acts_396 ?_
    refine j_iload_n C 6 rfl dL_acts_397 ?_
    refine j_bipush (v := 9) C (by decide) dL_acts_398 ?_
    refine j_ishr C dL_acts_400 ?_
    refine j_iconst (v := 1) C (by decide) dL_acts_401 ?_
    refine j_iand C dL_acts_402 ?_
    refine j_if_ne C 411 dL_acts_403 (by decide) hf (fun y115 hf => ?_) (fun y115 hf => ?_)
    · refine j_bipush (v := 13) C (by decide) dL_acts_411 ?_
      refine j_sub [4, 6, 3] rfl ?_
      exact w_L_acts_413 C hr hk a v2 z1 v2 13 hf
    · refine j_bipush (v := 101) C (by decide) dL_acts_406 ?_
      refine j_goto C 413 dL_acts_408 (by decide) ?_
      refine j_sub [4, 6, 3] rfl ?_
      exact w_L_acts_413 C hr hk a v2 z1 v2 101 hf
  refine j_tout (tgt := 476) C dL_acts_30 (sw_out0_9 y16 y33 y44 y64 y66 y68 y108 y110 y112 y114) (by decide) ?_
  refine j_aload_n C 4 rfl dL_acts_476 ?_
  obtain ⟨z116, h117, hf⟩ := bnd_some hf
  refine j_callV (q := 0) (As := []) (rest := []) C (k_X8_press h117) cw_X8_press ml_L_131 m_0 ce_0 rfl rfl ⟨Nat.le_of_ble_eq_true rfl, Nat.le_of_ble_eq_true rfl⟩ ⟨Nat.le_of_ble_eq_true rfl, Nat.le_of_ble_eq_true rfl⟩ rfl (Nat.le_of_ble_eq_true rfl) dL_acts_477 ?_
  refine j_istore (lv' := [(14, .int z116.1), (7, .int z10), (6, .int z7.2), (5, .int z4), (3, .long z1), (0, .ref (ad 0)), (1, .int v1), (2, .int v2)]) C dL_acts_480 (by decide) rfl ?_
  refine j_iload C 0 rfl dL_acts_482 ?_
  refine j_iconst (v := 4) C (by decide) dL_acts_484 ?_
  refine j_icmp_ne C 504 dL_acts_485 (by decide) hf (fun y121 hf => ?_) (fun y121 hf => ?_)
  · refine j_sub [5, 4, 3, 2, 1, 0] rfl ?_
    exact w_L_acts_504 C hr hk z116.2 z1 z4 z7.2 z10 z116.1 hf
  · refine j_aload_n C 5 rfl dL_acts_488 ?_
    refine j_iconst (v := 2) C (by decide) dL_acts_489 ?_
    obtain ⟨z122, h123, hf⟩ := bnd_some hf
    obtain ⟨y124, hf⟩ := gd_some hf
    have y124 := of_decide_eq_true y124
    refine j_callV (q := 0) (As := [.int 2]) (rest := []) C (k_X8_events h123 y124) cw_X8_events ml_L_104 m_0 ce_0 rfl rfl ⟨Nat.le_of_ble_eq_true rfl, Nat.le_of_ble_eq_true rfl⟩ ⟨Nat.le_of_ble_eq_true rfl, Nat.le_of_ble_eq_true rfl⟩ rfl (Nat.le_of_ble_eq_true rfl) dL_acts_490 ?_
    refine j_iload C 2 rfl dL_acts_493 ?_
    refine j_iconst (v := 1) C (by decide) dL_acts_495 ?_
    refine j_iadd C dL_acts_496 ?_
    refine j_icmp_ne C 504 dL_acts_497 (by decide) hf (fun y125 hf => ?_) (fun y125 hf => ?_)
    · refine j_sub [5, 4, 3, 2, 1, 0] rfl ?_
      exact w_L_acts_504 C hr hk z116.2 z1 z4 z7.2 z10 z116.1 hf
    · refine j_iconst (v := 1) C (by decide) dL_acts_500 ?_
      refine j_goto C 505 dL_acts_501 (by decide) ?_
      refine j_sub [5, 4, 3, 2, 1, 0] rfl ?_
      exact w_L_acts_505 C hr hk z116.2 z1 z4 z7.2 z10 z116.1 1 hf
set_option maxRecDepth 100000 in
set_option maxHeartbeats 4000000 in
theorem w_L_isReached_244 {b : MS} {p : Program} {l : Launch} {e : Env} {s : State} {m : MethodId} {args : Array Value} {below : List Frame} {meth : Method} {c : Code} {G : GT} {A : Nat → Prop} {ad : Nat → Nat} (C : CX G A RL cL_isReached 10 p s m args c) (hr : meth.sig.returnType = (some .boolean)) (hk : meth.locks = false) {rr : Int32 × KS} (c83 : KS → Int32 → Int32 → Int32 → Int32 → Int32 → Int32 → Option (Int32 × KS)) (K83 : ∀ (a : KS) (v1 : Int32) (v2 : Int32) (v3 : Int32) (v4 : Int32) (v5 : Int32) (v6 : Int32), c83 a v1 v2 v3 v4 v5 v6 = some rr → J p l e (RM 6) s m args below meth c G A 10 (MQ below (QV (some (.int rr.1)) (PosW G ad rr.2 b A) A) args s 0 0 A) 0 0 ad a b 83 [(0, .ref (ad 0)), (1, .int v1), (2, .int v2), (3, .int v3), (4, .int v4), (5, .int v5), (6, .int v6)] []) (a : KS) (v1 : Int32) (v3 : Int32) (v4 : Int32) (v5 : Int32) (v6 : Int32) (s0 : Int32) (hf : f_L_isReached_244 c83 a v1 v3 v4 v5 v6 s0 = some rr) : J p l e (RM 6) s m args below meth c G A 10 (MQ below (QV (some (.int rr.1)) (PosW G ad rr.2 b A) A) args s 0 0 A) 0 0 ad a b 244 [(0, .ref (ad 0)), (1, .int v1), (3, .int v3), (4, .int v4), (5, .int v5), (6, .int v6)] [.int s0] := by
  unfold f_L_isReached_244 at hf
  refine j_istore_n (i := 2) (lv' := [(2, .int s0), (0, .ref (ad 0)), (1, .int v1), (3, .int v3), (4, .int v4), (5, .int v5), (6, .int v6)]) C dL_isReached_244 rfl (by decide) rfl ?_
  refine j_iinc (v := v6 + (-1)) (lv' := [(6, .int (v6 + (-1))), (2, .int s0), (0, .ref (ad 0)), (1, .int v1), (3, .int v3), (4, .int v4), (5, .int v5)]) C 6 rfl (ii_m1 _) (by decide) rfl dL_isReached_245 ?_
  refine j_goto C 83 dL_isReached_248 (by decide) ?_
  refine j_sub [2, 3, 1, 4, 5, 6, 0] rfl ?_
  exact K83 a v1 s0 v3 v4 v5 (v6 + (-1)) hf
set_option maxRecDepth 100000 in
set_option maxHeartbeats 4000000 in
theorem w_L_isReached_243 {b : MS} {p : Program} {l : Launch} {e : Env} {s : State} {m : MethodId} {args : Array Value} {below : List Frame} {meth : Method} {c : Code} {G : GT} {A : Nat → Prop} {ad : Nat → Nat} (C : CX G A RL cL_isReached 10 p s m args c) (hr : meth.sig.returnType = (some .boolean)) (hk : meth.locks = false) {rr : Int32 × KS} (c83 : KS → Int32 → Int32 → Int32 → Int32 → Int32 → Int32 → Option (Int32 × KS)) (K83 : ∀ (a : KS) (v1 : Int32) (v2 : Int32) (v3 : Int32) (v4 : Int32) (v5 : Int32) (v6 : Int32), c83 a v1 v2 v3 v4 v5 v6 = some rr → J p l e (RM 6) s m args below meth c G A 10 (MQ below (QV (some (.int rr.1)) (PosW G ad rr.2 b A) A) args s 0 0 A) 0 0 ad a b 83 [(0, .ref (ad 0)), (1, .int v1), (2, .int v2), (3, .int v3), (4, .int v4), (5, .int v5), (6, .int v6)] []) (a : KS) (v1 : Int32) (v3 : Int32) (v4 : Int32) (v5 : Int32) (v6 : Int32) (hf : f_L_isReached_243 c83 a v1 v3 v4 v5 v6 = some rr) : J p l e (RM 6) s m args below meth c G A 10 (MQ below (QV (some (.int rr.1)) (PosW G ad rr.2 b A) A) args s 0 0 A) 0 0 ad a b 243 [(0, .ref (ad 0)), (1, .int v1), (3, .int v3), (4, .int v4), (5, .int v5), (6, .int v6)] [] := by
  unfold f_L_isReached_243 at hf
  refine j_iconst (v := 0) C (by decide) dL_isReached_243 ?_
  refine j_sub [0, 1, 2, 3, 4, 5] rfl ?_
  exact w_L_isReached_244 C hr hk c83 K83 a v1 v3 v4 v5 v6 0 hf
set_option maxRecDepth 100000 in
set_option maxHeartbeats 4000000 in
theorem w_L_isReached_236 {b : MS} {p : Program} {l : Launch} {e : Env} {s : State} {m : MethodId} {args : Array Value} {below : List Frame} {meth : Method} {c : Code} {G : GT} {A : Nat → Prop} {ad : Nat → Nat} (C : CX G A RL cL_isReached 10 p s m args c) (hr : meth.sig.returnType = (some .boolean)) (hk : meth.locks = false) {rr : Int32 × KS} (c83 : KS → Int32 → Int32 → Int32 → Int32 → Int32 → Int32 → Option (Int32 × KS)) (K83 : ∀ (a : KS) (v1 : Int32) (v2 : Int32) (v3 : Int32) (v4 : Int32) (v5 : Int32) (v6 : Int32), c83 a v1 v2 v3 v4 v5 v6 = some rr → J p l e (RM 6) s m args below meth c G A 10 (MQ below (QV (some (.int rr.1)) (PosW G ad rr.2 b A) A) args s 0 0 A) 0 0 ad a b 83 [(0, .ref (ad 0)), (1, .int v1), (2, .int v2), (3, .int v3), (4, .int v4), (5, .int v5), (6, .int v6)] []) (a : KS) (v1 : Int32) (v3 : Int32) (v4 : Int32) (v5 : Int32) (v6 : Int32) (s0 : Int32) (s1 : Int32) (hf : f_L_isReached_236 c83 a v1 v3 v4 v5 v6 s0 s1 = some rr) : J p l e (RM 6) s m args below meth c G A 10 (MQ below (QV (some (.int rr.1)) (PosW G ad rr.2 b A) A) args s 0 0 A) 0 0 ad a b 236 [(0, .ref (ad 0)), (1, .int v1), (3, .int v3), (4, .int v4), (5, .int v5), (6, .int v6)] [.int s1, .int s0] := by
  unfold f_L_isReached_236 at hf
  refine j_icmp_ne C 243 dL_isReached_236 (by decide) hf (fun y1 hf => ?_) (fun y1 hf => ?_)
  · refine j_sub [0, 1, 2, 3, 4, 5] rfl ?_
    exact w_L_isReached_243 C hr hk c83 K83 a v1 v3 v4 v5 v6 hf
  · refine j_iconst (v := 1) C (by decide) dL_isReached_239 ?_
    refine j_goto C 244 dL_isReached_240 (by decide) ?_
    refine j_sub [0, 1, 2, 3, 4, 5] rfl ?_
    exact w_L_isReached_244 C hr hk c83 K83 a v1 v3 v4 v5 v6 1 hf
set_option maxRecDepth 100000 in
set_option maxHeartbeats 4000000 in
theorem w_L_isReached_210 {b : MS} {p : Program} {l : Launch} {e : Env} {s : State} {m : MethodId} {args : Array Value} {below : List Frame} {meth : Method} {c : Code} {G : GT} {A : Nat → Prop} {ad : Nat → Nat} (C : CX G A RL cL_isReached 10 p s m args c) (hr : meth.sig.returnType = (some .boolean)) (hk : meth.locks = false) {rr : Int32 × KS} (c83 : KS → Int32 → Int32 → Int32 → Int32 → Int32 → Int32 → Option (Int32 × KS)) (K83 : ∀ (a : KS) (v1 : Int32) (v2 : Int32) (v3 : Int32) (v4 : Int32) (v5 : Int32) (v6 : Int32), c83 a v1 v2 v3 v4 v5 v6 = some rr → J p l e (RM 6) s m args below meth c G A 10 (MQ below (QV (some (.int rr.1)) (PosW G ad rr.2 b A) A) args s 0 0 A) 0 0 ad a b 83 [(0, .ref (ad 0)), (1, .int v1), (2, .int v2), (3, .int v3), (4, .int v4), (5, .int v5), (6, .int v6)] []) (a : KS) (v1 : Int32) (v2 : Int32) (v3 : Int32) (v4 : Int32) (v5 : Int32) (v6 : Int32) (v7 : Int32) (hf : f_L_isReached_210 c83 a v1 v2 v3 v4 v5 v6 v7 = some rr) : J p l e (RM 6) s m args below meth c G A 10 (MQ below (QV (some (.int rr.1)) (PosW G ad rr.2 b A) A) args s 0 0 A) 0 0 ad a b 210 [(0, .ref (ad 0)), (1, .int v1), (2, .int v2), (3, .int v3), (4, .int v4), (5, .int v5), (6, .int v6), (7, .int v7)] [] := by
  unfold f_L_isReached_210 at hf
  refine j_aload_n C 0 rfl dL_isReached_210 ?_
  obtain ⟨z1, h2, hf⟩ := bnd_some hf
  refine j_callV (q := 0) (As := []) (rest := []) C (k_X8_press h2) cw_X8_press ml_L_131 m_0 ce_0 rfl rfl ⟨Nat.le_of_ble_eq_true rfl, Nat.le_of_ble_eq_true rfl⟩ ⟨Nat.le_of_ble_eq_true rfl, Nat.le_of_ble_eq_true rfl⟩ rfl (Nat.le_of_ble_eq_true rfl) dL_isReached_211 ?_
  refine j_istore (lv' := [(9, .int z1.1), (0, .ref (ad 0)), (1, .int v1), (2, .int v2), (3, .int v3), (4, .int v4), (5, .int v5), (6, .int v6), (7, .int v7)]) C dL_isReached_214 (by decide) rfl ?_
  refine j_iload_n C 3 rfl dL_isReached_216 ?_
  refine j_if_eq C 243 dL_isReached_217 (by decide) hf (fun y6 hf => ?_) (fun y6 hf => ?_)
  · refine j_sub [1, 2, 4, 5, 6, 7] rfl ?_
    exact w_L_isReached_243 C hr hk c83 K83 z1.2 v1 v3 v4 v5 v6 hf
  · refine j_iload C 0 rfl dL_isReached_220 ?_
    refine j_aload_n C 1 rfl dL_isReached_222 ?_
    refine j_iload C 8 rfl dL_isReached_223 ?_
    obtain ⟨z7, h8, hf⟩ := bnd_some hf
    obtain ⟨y9, hf⟩ := gd_some hf
    have y9 := of_decide_eq_true y9
    refine j_callV (q := 0) (As := [.int v7]) (rest := [.int z1.1]) C (k_X8_kind h8 y9) cw_X8_kind ml_L_19 m_0 ce_0 rfl rfl ⟨Nat.le_of_ble_eq_true rfl, Nat.le_of_ble_eq_true rfl⟩ ⟨Nat.le_of_ble_eq_true rfl, Nat.le_of_ble_eq_true rfl⟩ rfl (Nat.le_of_ble_eq_true rfl) dL_isReached_225 ?_
    refine j_if_ne C 235 dL_isReached_228 (by decide) hf (fun y10 hf => ?_) (fun y10 hf => ?_)
    · refine j_iconst (v := 3) C (by decide) dL_isReached_235 ?_
      refine j_sub [1, 2, 4, 5, 6, 7] rfl ?_
      exact w_L_isReached_236 C hr hk c83 K83 z1.2 v1 v3 v4 v5 v6 z1.1 3 hf
    · refine j_iconst (v := 2) C (by decide) dL_isReached_231 ?_
      refine j_goto C 236 dL_isReached_232 (by decide) ?_
      refine j_sub [1, 2, 4, 5, 6, 7] rfl ?_
      exact w_L_isReached_236 C hr hk c83 K83 z1.2 v1 v3 v4 v5 v6 z1.1 2 hf
set_option maxRecDepth 100000 in
set_option maxHeartbeats 4000000 in
theorem w_L_isReached_200 {b : MS} {p : Program} {l : Launch} {e : Env} {s : State} {m : MethodId} {args : Array Value} {below : List Frame} {meth : Method} {c : Code} {G : GT} {A : Nat → Prop} {ad : Nat → Nat} (C : CX G A RL cL_isReached 10 p s m args c) (hr : meth.sig.returnType = (some .boolean)) (hk : meth.locks = false) {rr : Int32 × KS} (c83 : KS → Int32 → Int32 → Int32 → Int32 → Int32 → Int32 → Option (Int32 × KS)) (K83 : ∀ (a : KS) (v1 : Int32) (v2 : Int32) (v3 : Int32) (v4 : Int32) (v5 : Int32) (v6 : Int32), c83 a v1 v2 v3 v4 v5 v6 = some rr → J p l e (RM 6) s m args below meth c G A 10 (MQ below (QV (some (.int rr.1)) (PosW G ad rr.2 b A) A) args s 0 0 A) 0 0 ad a b 83 [(0, .ref (ad 0)), (1, .int v1), (2, .int v2), (3, .int v3), (4, .int v4), (5, .int v5), (6, .int v6)] []) (a : KS) (v1 : Int32) (v3 : Int32) (v4 : Int32) (v5 : Int32) (v6 : Int32) (v7 : Int32) (v8 : Int32) (s0 : Int32) (hf : f_L_isReached_200 c83 a v1 v3 v4 v5 v6 v7 v8 s0 = some rr) : J p l e (RM 6) s m args below meth c G A 10 (MQ below (QV (some (.int rr.1)) (PosW G ad rr.2 b A) A) args s 0 0 A) 0 0 ad a b 200 [(0, .ref (ad 0)), (1, .int v1), (3, .int v3), (4, .int v4), (5, .int v5), (6, .int v6), (7, .int v7), (8, .int v8)] [.int s0] := by
  unfold f_L_isReached_200 at hf
  refine j_istore_n (i := 2) (lv' := [(2, .int s0), (0, .ref (ad 0)), (1, .int v1), (3, .int v3), (4, .int v4), (5, .int v5), (6, .int v6), (7, .int v7), (8, .int v8)]) C dL_isReached_200 rfl (by decide) rfl ?_
  refine j_iload C 4 rfl dL_isReached_201 ?_
  refine j_iconst (v := 2) C (by decide) dL_isReached_203 ?_
  refine j_iload C 8 rfl dL_isReached_204 ?_
  refine j_imul C dL_isReached_206 ?_
  refine j_iadd C dL_isReached_207 ?_
  refine j_letI hf (fun x1 hf => ?_)
  refine j_istore (lv' := [(4, .int x1), (2, .int s0), (0, .ref (ad 0)), (1, .int v1), (3, .int v3), (5, .int v5), (6, .int v6), (7, .int v7), (8, .int v8)]) C dL_isReached_208 (by decide) rfl ?_
  refine j_sub [2, 3, 1, 4, 0, 5, 6, 7] rfl ?_
  exact w_L_isReached_210 C hr hk c83 K83 a v1 s0 v3 x1 v5 v6 v7 hf
set_option maxRecDepth 100000 in
set_option maxHeartbeats 4000000 in
theorem w_L_isReached_199 {b : MS} {p : Program} {l : Launch} {e : Env} {s : State} {m : MethodId} {args : Array Value} {below : List Frame} {meth : Method} {c : Code} {G : GT} {A : Nat → Prop} {ad : Nat → Nat} (C : CX G A RL cL_isReached 10 p s m args c) (hr : meth.sig.returnType = (some .boolean)) (hk : meth.locks = false) {rr : Int32 × KS} (c83 : KS → Int32 → Int32 → Int32 → Int32 → Int32 → Int32 → Option (Int32 × KS)) (K83 : ∀ (a : KS) (v1 : Int32) (v2 : Int32) (v3 : Int32) (v4 : Int32) (v5 : Int32) (v6 : Int32), c83 a v1 v2 v3 v4 v5 v6 = some rr → J p l e (RM 6) s m args below meth c G A 10 (MQ below (QV (some (.int rr.1)) (PosW G ad rr.2 b A) A) args s 0 0 A) 0 0 ad a b 83 [(0, .ref (ad 0)), (1, .int v1), (2, .int v2), (3, .int v3), (4, .int v4), (5, .int v5), (6, .int v6)] []) (a : KS) (v1 : Int32) (v3 : Int32) (v4 : Int32) (v5 : Int32) (v6 : Int32) (v7 : Int32) (v8 : Int32) (hf : f_L_isReached_199 c83 a v1 v3 v4 v5 v6 v7 v8 = some rr) : J p l e (RM 6) s m args below meth c G A 10 (MQ below (QV (some (.int rr.1)) (PosW G ad rr.2 b A) A) args s 0 0 A) 0 0 ad a b 199 [(0, .ref (ad 0)), (1, .int v1), (3, .int v3), (4, .int v4), (5, .int v5), (6, .int v6), (7, .int v7), (8, .int v8)] [] := by
  unfold f_L_isReached_199 at hf
  refine j_iconst (v := 0) C (by decide) dL_isReached_199 ?_
  refine j_sub [0, 1, 2, 3, 4, 5, 6, 7] rfl ?_
  exact w_L_isReached_200 C hr hk c83 K83 a v1 v3 v4 v5 v6 v7 v8 0 hf
set_option maxRecDepth 100000 in
set_option maxHeartbeats 4000000 in
theorem w_L_isReached_152 {b : MS} {p : Program} {l : Launch} {e : Env} {s : State} {m : MethodId} {args : Array Value} {below : List Frame} {meth : Method} {c : Code} {G : GT} {A : Nat → Prop} {ad : Nat → Nat} (C : CX G A RL cL_isReached 10 p s m args c) (hr : meth.sig.returnType = (some .boolean)) (hk : meth.locks = false) {rr : Int32 × KS} (c83 : KS → Int32 → Int32 → Int32 → Int32 → Int32 → Int32 → Option (Int32 × KS)) (K83 : ∀ (a : KS) (v1 : Int32) (v2 : Int32) (v3 : Int32) (v4 : Int32) (v5 : Int32) (v6 : Int32), c83 a v1 v2 v3 v4 v5 v6 = some rr → J p l e (RM 6) s m args below meth c G A 10 (MQ below (QV (some (.int rr.1)) (PosW G ad rr.2 b A) A) args s 0 0 A) 0 0 ad a b 83 [(0, .ref (ad 0)), (1, .int v1), (2, .int v2), (3, .int v3), (4, .int v4), (5, .int v5), (6, .int v6)] []) (a : KS) (v1 : Int32) (v3 : Int32) (v4 : Int32) (v5 : Int32) (v6 : Int32) (v7 : Int32) (v8 : Int32) (s0 : Int32) (hf : f_L_isReached_152 c83 a v1 v3 v4 v5 v6 v7 v8 s0 = some rr) : J p l e (RM 6) s m args below meth c G A 10 (MQ below (QV (some (.int rr.1)) (PosW G ad rr.2 b A) A) args s 0 0 A) 0 0 ad a b 152 [(0, .ref (ad 0)), (1, .int v1), (3, .int v3), (4, .int v4), (5, .int v5), (6, .int v6), (7, .int v7), (8, .int v8)] [.int s0] := by
  unfold f_L_isReached_152 at hf
  refine j_istore_n (i := 2) (lv' := [(2, .int s0), (0, .ref (ad 0)), (1, .int v1), (3, .int v3), (4, .int v4), (5, .int v5), (6, .int v6), (7, .int v7), (8, .int v8)]) C dL_isReached_152 rfl (by decide) rfl ?_
  refine j_aload_n C 1 rfl dL_isReached_153 ?_
  obtain ⟨z1, h2, hf⟩ := bnd_some hf
  refine j_callV (q := 0) (As := []) (rest := []) C (k_X8_chosen h2) cw_X8_chosen ml_L_134 m_0 ce_0 rfl rfl ⟨Nat.le_of_ble_eq_true rfl, Nat.le_of_ble_eq_true rfl⟩ ⟨Nat.le_of_ble_eq_true rfl, Nat.le_of_ble_eq_true rfl⟩ rfl (Nat.le_of_ble_eq_true rfl) dL_isReached_154 ?_
  refine j_iload C 7 rfl dL_isReached_157 ?_
  refine j_icmp_eq C 210 dL_isReached_159 (by decide) hf (fun y4 hf => ?_) (fun y4 hf => ?_)
  · refine j_sub [1, 2, 0, 3, 4, 5, 6, 7] rfl ?_
    exact w_L_isReached_210 C hr hk c83 K83 a v1 s0 v3 v4 v5 v6 v7 hf
  · refine j_iload_n C 0 rfl dL_isReached_162 ?_
    refine j_if_eq C 199 dL_isReached_163 (by decide) hf (fun y5 hf => ?_) (fun y5 hf => ?_)
    · refine j_sub [1, 2, 3, 4, 5, 6, 7, 8] rfl ?_
      exact w_L_isReached_199 C hr hk c83 K83 a v1 v3 v4 v5 v6 v7 v8 hf
    · refine j_aload_n C 1 rfl dL_isReached_166 ?_
      refine j_iload C 8 rfl dL_isReached_167 ?_
      refine j_ineg C dL_isReached_169 ?_
      obtain ⟨z6, h7, hf⟩ := bnd_some hf
      obtain ⟨y8, hf⟩ := gd_some hf
      have y8 := of_decide_eq_true y8
      refine j_callV (q := 0) (As := [.int (-v8)]) (rest := []) C (k_X8_turn h7 y8) cw_X8_turn ml_L_128 m_0 ce_0 rfl rfl ⟨Nat.le_of_ble_eq_true rfl, Nat.le_of_ble_eq_true rfl⟩ ⟨Nat.le_of_ble_eq_true rfl, Nat.le_of_ble_eq_true rfl⟩ rfl (Nat.le_of_ble_eq_true rfl) dL_isReached_170 ?_
      refine j_if_ne C 199 dL_isReached_173 (by decide) hf (fun y11 hf => ?_) (fun y11 hf => ?_)
      · refine j_sub [1, 2, 3, 4, 5, 6, 7, 8] rfl ?_
        exact w_L_isReached_199 C hr hk c83 K83 z6.2.2 v1 v3 v4 v5 v6 v7 v8 hf
      · refine j_aload_n C 1 rfl dL_isReached_176 ?_
        refine j_iload C 8 rfl dL_isReached_177 ?_
        refine j_ineg C dL_isReached_179 ?_
        obtain ⟨z12, h13, hf⟩ := bnd_some hf
        obtain ⟨y14, hf⟩ := gd_some hf
        have y14 := of_decide_eq_true y14
        refine j_callV (q := 0) (As := [.int (-v8)]) (rest := []) C (k_X8_turn h13 y14) cw_X8_turn ml_L_128 m_0 ce_0 rfl rfl ⟨Nat.le_of_ble_eq_true rfl, Nat.le_of_ble_eq_true rfl⟩ ⟨Nat.le_of_ble_eq_true rfl, Nat.le_of_ble_eq_true rfl⟩ rfl (Nat.le_of_ble_eq_true rfl) dL_isReached_180 ?_
        refine j_if_lt C 199 dL_isReached_183 (by decide) hf (fun y17 hf => ?_) (fun y17 hf => ?_)
        · refine j_sub [1, 2, 3, 4, 5, 6, 7, 8] rfl ?_
          exact w_L_isReached_199 C hr hk c83 K83 z12.2.2 v1 v3 v4 v5 v6 v7 v8 hf
        · refine j_aload_n C 1 rfl dL_isReached_186 ?_
          obtain ⟨z18, h19, hf⟩ := bnd_some hf
          refine j_callV (q := 0) (As := []) (rest := []) C (k_X8_chosen h19) cw_X8_chosen ml_L_134 m_0 ce_0 rfl rfl ⟨Nat.le_of_ble_eq_true rfl, Nat.le_of_ble_eq_true rfl⟩ ⟨Nat.le_of_ble_eq_true rfl, Nat.le_of_ble_eq_true rfl⟩ rfl (Nat.le_of_ble_eq_true rfl) dL_isReached_187 ?_
          refine j_iload C 7 rfl dL_isReached_190 ?_
          refine j_icmp_ne C 199 dL_isReached_192 (by decide) hf (fun y21 hf => ?_) (fun y21 hf => ?_)
          · refine j_sub [1, 2, 3, 4, 5, 6, 7, 8] rfl ?_
            exact w_L_isReached_199 C hr hk c83 K83 z12.2.2 v1 v3 v4 v5 v6 v7 v8 hf
          · refine j_iconst (v := 1) C (by decide) dL_isReached_195 ?_
            refine j_goto C 200 dL_isReached_196 (by decide) ?_
            refine j_sub [1, 2, 3, 4, 5, 6, 7, 8] rfl ?_
            exact w_L_isReached_200 C hr hk c83 K83 z12.2.2 v1 v3 v4 v5 v6 v7 v8 1 hf
set_option maxRecDepth 100000 in
set_option maxHeartbeats 4000000 in
theorem w_L_isReached_98 {b : MS} {p : Program} {l : Launch} {e : Env} {s : State} {m : MethodId} {args : Array Value} {below : List Frame} {meth : Method} {c : Code} {G : GT} {A : Nat → Prop} {ad : Nat → Nat} (C : CX G A RL cL_isReached 10 p s m args c) (hr : meth.sig.returnType = (some .boolean)) (hk : meth.locks = false) {rr : Int32 × KS} (c83 : KS → Int32 → Int32 → Int32 → Int32 → Int32 → Int32 → Option (Int32 × KS)) (c98 : KS → Int32 → Int32 → Int32 → Int32 → Int32 → Int32 → Int32 → Option (Int32 × KS)) (K83 : ∀ (a : KS) (v1 : Int32) (v2 : Int32) (v3 : Int32) (v4 : Int32) (v5 : Int32) (v6 : Int32), c83 a v1 v2 v3 v4 v5 v6 = some rr → J p l e (RM 6) s m args below meth c G A 10 (MQ below (QV (some (.int rr.1)) (PosW G ad rr.2 b A) A) args s 0 0 A) 0 0 ad a b 83 [(0, .ref (ad 0)), (1, .int v1), (2, .int v2), (3, .int v3), (4, .int v4), (5, .int v5), (6, .int v6)] []) (K98 : ∀ (a : KS) (v1 : Int32) (v3 : Int32) (v4 : Int32) (v5 : Int32) (v6 : Int32) (v7 : Int32) (v8 : Int32), c98 a v1 v3 v4 v5 v6 v7 v8 = some rr → J p l e (RM 6) s m args below meth c G A 10 (MQ below (QV (some (.int rr.1)) (PosW G ad rr.2 b A) A) args s 0 0 A) 0 0 ad a b 98 [(0, .ref (ad 0)), (1, .int v1), (3, .int v3), (4, .int v4), (5, .int v5), (6, .int v6), (7, .int v7), (8, .int v8)] []) (a : KS) (v1 : Int32) (v3 : Int32) (v4 : Int32) (v5 : Int32) (v6 : Int32) (v7 : Int32) (v8 : Int32) (hf : f_L_isReached_98 c83 c98 a v1 v3 v4 v5 v6 v7 v8 = some rr) : J p l e (RM 6) s m args below meth c G A 10 (MQ below (QV (some (.int rr.1)) (PosW G ad rr.2 b A) A) args s 0 0 A) 0 0 ad a b 98 [(0, .ref (ad 0)), (1, .int v1), (3, .int v3), (4, .int v4), (5, .int v5), (6, .int v6), (7, .int v7), (8, .int v8)] [] := by
  unfold f_L_isReached_98 at hf
  refine j_iload C 7 rfl dL_isReached_98 ?_
  refine j_iload C 5 rfl dL_isReached_100 ?_
  refine j_icmp_ge C 119 dL_isReached_102 (by decide) hf (fun y1 hf => ?_) (fun y1 hf => ?_)
  · refine j_aload_n C 0 rfl dL_isReached_119 ?_
    refine j_iload C 6 rfl dL_isReached_120 ?_
    obtain ⟨z2, h3, hf⟩ := bnd_some hf
    obtain ⟨y4, hf⟩ := gd_some hf
    have y4 := of_decide_eq_true y4
    refine j_callV (q := 0) (As := [.int v7]) (rest := []) C (k_X8_detentsTo h3 y4) cw_X8_detentsTo ml_L_87 m_0 ce_0 rfl rfl ⟨Nat.le_of_ble_eq_true rfl, Nat.le_of_ble_eq_true rfl⟩ ⟨Nat.le_of_ble_eq_true rfl, Nat.le_of_ble_eq_true rfl⟩ rfl (Nat.le_of_ble_eq_true rfl) dL_isReached_122 ?_
    refine j_aload_n C 0 rfl dL_isReached_125 ?_
    refine j_aload_n C 0 rfl dL_isReached_126 ?_
    refine j_iload C 6 rfl dL_isReached_127 ?_
    obtain ⟨z5, h6, hf⟩ := bnd_some hf
    obtain ⟨y7, hf⟩ := gd_some hf
    have y7 := of_decide_eq_true y7
    refine j_callV (q := 0) (As := [.int v7]) (rest := [.ref (ad 0), .int z2.2]) C (k_X8_menuOf h6 y7) cw_X8_menuOf ml_L_35 m_0 ce_0 rfl rfl ⟨Nat.le_of_ble_eq_true rfl, Nat.le_of_ble_eq_true rfl⟩ ⟨Nat.le_of_ble_eq_true rfl, Nat.le_of_ble_eq_true rfl⟩ rfl (Nat.le_of_ble_eq_true rfl) dL_isReached_129 ?_
    obtain ⟨z8, h9, hf⟩ := bnd_some hf
    obtain ⟨y10, hf⟩ := gd_some hf
    have y10 := of_decide_eq_true y10
    refine j_callV (q := 0) (As := [.int z5.2]) (rest := [.int z2.2]) C (k_X8_detentsTo h9 y10) cw_X8_detentsTo ml_L_87 m_0 ce_0 rfl rfl ⟨Nat.le_of_ble_eq_true rfl, Nat.le_of_ble_eq_true rfl⟩ ⟨Nat.le_of_ble_eq_true rfl, Nat.le_of_ble_eq_true rfl⟩ rfl (Nat.le_of_ble_eq_true rfl) dL_isReached_132 ?_
    refine j_isub C dL_isReached_135 ?_
    refine j_letI hf (fun x11 hf => ?_)
    refine j_istore (lv' := [(8, .int x11), (0, .ref (ad 0)), (1, .int v1), (3, .int v3), (4, .int v4), (5, .int v5), (6, .int v6), (7, .int v7)]) C dL_isReached_136 (by decide) rfl ?_
    refine j_aload_n C 1 rfl dL_isReached_138 ?_
    refine j_iload C 0 rfl dL_isReached_139 ?_
    obtain ⟨z12, h13, hf⟩ := bnd_some hf
    obtain ⟨y14, hf⟩ := gd_some hf
    have y14 := of_decide_eq_true y14
    refine j_callV (q := 0) (As := [.int x11]) (rest := []) C (k_X8_turn h13 y14) cw_X8_turn ml_L_128 m_0 ce_0 rfl rfl ⟨Nat.le_of_ble_eq_true rfl, Nat.le_of_ble_eq_true rfl⟩ ⟨Nat.le_of_ble_eq_true rfl, Nat.le_of_ble_eq_true rfl⟩ rfl (Nat.le_of_ble_eq_true rfl) dL_isReached_141 ?_
    refine j_if_lt C 151 dL_isReached_144 (by decide) hf (fun y17 hf => ?_) (fun y17 hf => ?_)
    · refine j_iconst (v := 0) C (by decide) dL_isReached_151 ?_
      refine j_sub [1, 2, 3, 4, 5, 6, 7, 0] rfl ?_
      exact w_L_isReached_152 C hr hk c83 K83 z12.2.2 v1 v3 v4 v5 v6 v7 x11 0 hf
    · refine j_iconst (v := 1) C (by decide) dL_isReached_147 ?_
      refine j_goto C 152 dL_isReached_148 (by decide) ?_
      refine j_sub [1, 2, 3, 4, 5, 6, 7, 0] rfl ?_
      exact w_L_isReached_152 C hr hk c83 K83 z12.2.2 v1 v3 v4 v5 v6 v7 x11 1 hf
  · refine j_aload_n C 0 rfl dL_isReached_105 ?_
    refine j_iload C 6 rfl dL_isReached_106 ?_
    obtain ⟨z18, h19, hf⟩ := bnd_some hf
    obtain ⟨y20, hf⟩ := gd_some hf
    have y20 := of_decide_eq_true y20
    refine j_callV (q := 0) (As := [.int v7]) (rest := []) C (k_X8_menuOf h19 y20) cw_X8_menuOf ml_L_35 m_0 ce_0 rfl rfl ⟨Nat.le_of_ble_eq_true rfl, Nat.le_of_ble_eq_true rfl⟩ ⟨Nat.le_of_ble_eq_true rfl, Nat.le_of_ble_eq_true rfl⟩ rfl (Nat.le_of_ble_eq_true rfl) dL_isReached_108 ?_
    refine j_istore (lv' := [(7, .int z18.2), (0, .ref (ad 0)), (1, .int v1), (3, .int v3), (4, .int v4), (5, .int v5), (6, .int v6), (8, .int v8)]) C dL_isReached_111 (by decide) rfl ?_
    refine j_iinc (v := v8 + 1) (lv' := [(8, .int (v8 + 1)), (7, .int z18.2), (0, .ref (ad 0)), (1, .int v1), (3, .int v3), (4, .int v4), (5, .int v5), (6, .int v6)]) C 7 rfl rfl (by decide) rfl dL_isReached_113 ?_
    refine j_goto C 98 dL_isReached_116 (by decide) ?_
    refine j_sub [2, 3, 4, 5, 6, 7, 1, 0] rfl ?_
    exact K98 a v1 v3 v4 v5 v6 z18.2 (v8 + 1) hf
theorem wl_L_isReached_98 {b : MS} {p : Program} {l : Launch} {e : Env} {s : State} {m : MethodId} {args : Array Value} {below : List Frame} {meth : Method} {c : Code} {G : GT} {A : Nat → Prop} {ad : Nat → Nat} (C : CX G A RL cL_isReached 10 p s m args c) (hr : meth.sig.returnType = (some .boolean)) (hk : meth.locks = false) {rr : Int32 × KS} (fuel : Nat) (c83 : KS → Int32 → Int32 → Int32 → Int32 → Int32 → Int32 → Option (Int32 × KS)) (K83 : ∀ (a : KS) (v1 : Int32) (v2 : Int32) (v3 : Int32) (v4 : Int32) (v5 : Int32) (v6 : Int32), c83 a v1 v2 v3 v4 v5 v6 = some rr → J p l e (RM 6) s m args below meth c G A 10 (MQ below (QV (some (.int rr.1)) (PosW G ad rr.2 b A) A) args s 0 0 A) 0 0 ad a b 83 [(0, .ref (ad 0)), (1, .int v1), (2, .int v2), (3, .int v3), (4, .int v4), (5, .int v5), (6, .int v6)] []) : ∀ (a : KS) (v1 : Int32) (v3 : Int32) (v4 : Int32) (v5 : Int32) (v6 : Int32) (v7 : Int32) (v8 : Int32), l_L_isReached_98 fuel c83 a v1 v3 v4 v5 v6 v7 v8 = some rr → J p l e (RM 6) s m args below meth c G A 10 (MQ below (QV (some (.int rr.1)) (PosW G ad rr.2 b A) A) args s 0 0 A) 0 0 ad a b 98 [(0, .ref (ad 0)), (1, .int v1), (3, .int v3), (4, .int v4), (5, .int v5), (6, .int v6), (7, .int v7), (8, .int v8)] [] := by
  induction fuel with
  | zero => intro a v1 v3 v4 v5 v6 v7 v8 hf; cases hf
  | succ n ih =>
    intro a v1 v3 v4 v5 v6 v7 v8 hf
    have hf : f_L_isReached_98 c83 (l_L_isReached_98 n c83) a v1 v3 v4 v5 v6 v7 v8 = some rr := hf
    exact w_L_isReached_98 C hr hk c83 (l_L_isReached_98 n c83) K83 ih a v1 v3 v4 v5 v6 v7 v8 hf
set_option maxRecDepth 100000 in
set_option maxHeartbeats 4000000 in
theorem w_L_isReached_330 {b : MS} {p : Program} {l : Launch} {e : Env} {s : State} {m : MethodId} {args : Array Value} {below : List Frame} {meth : Method} {c : Code} {G : GT} {A : Nat → Prop} {ad : Nat → Nat} (C : CX G A RL cL_isReached 10 p s m args c) (hr : meth.sig.returnType = (some .boolean)) (hk : meth.locks = false) {rr : Int32 × KS}   (a : KS) (s0 : Int32) (hf : f_L_isReached_330 a s0 = some rr) : J p l e (RM 6) s m args below meth c G A 10 (MQ below (QV (some (.int rr.1)) (PosW G ad rr.2 b A) A) args s 0 0 A) 0 0 ad a b 330 [(0, .ref (ad 0))] [.int s0] := by
  unfold f_L_isReached_330 at hf
  refine j_istore_n (i := 2) (lv' := [(2, .int s0), (0, .ref (ad 0))]) C dL_isReached_330 rfl (by decide) rfl ?_
  refine j_iload_n C 0 rfl dL_isReached_331 ?_
  refine j_if_eq C 360 dL_isReached_332 (by decide) hf (fun y1 hf => ?_) (fun y1 hf => ?_)
  · refine j_iconst (v := 0) C (by decide) dL_isReached_360 ?_
    obtain rfl := Option.some.inj hf
    exact j_zret C hr hk (by decide) ⟨Nat.le_of_ble_eq_true rfl, Nat.le_of_ble_eq_true rfl⟩ rfl dL_isReached_361
  · refine j_aload_n C 1 rfl dL_isReached_335 ?_
    obtain ⟨z2, h3, hf⟩ := bnd_some hf
    refine j_callV (q := 0) (As := []) (rest := []) C (k_X8_hold h3) cw_X8_hold ml_L_110 m_0 ce_0 rfl rfl ⟨Nat.le_of_ble_eq_true rfl, Nat.le_of_ble_eq_true rfl⟩ ⟨Nat.le_of_ble_eq_true rfl, Nat.le_of_ble_eq_true rfl⟩ rfl (Nat.le_of_ble_eq_true rfl) dL_isReached_336 ?_
    refine j_if_lt C 360 dL_isReached_339 (by decide) hf (fun y7 hf => ?_) (fun y7 hf => ?_)
    · refine j_iconst (v := 0) C (by decide) dL_isReached_360 ?_
      obtain rfl := Option.some.inj hf
      exact j_zret C hr hk (by decide) ⟨Nat.le_of_ble_eq_true rfl, Nat.le_of_ble_eq_true rfl⟩ rfl dL_isReached_361
    · refine j_aload_n C 1 rfl dL_isReached_342 ?_
      obtain ⟨z8, h9, hf⟩ := bnd_some hf
      refine j_callV (q := 0) (As := []) (rest := []) C (k_X8_isHome h9) cw_X8_isHome ml_L_71 m_0 ce_0 rfl rfl ⟨Nat.le_of_ble_eq_true rfl, Nat.le_of_ble_eq_true rfl⟩ ⟨Nat.le_of_ble_eq_true rfl, Nat.le_of_ble_eq_true rfl⟩ rfl (Nat.le_of_ble_eq_true rfl) dL_isReached_343 ?_
      refine j_if_ne C 356 dL_isReached_346 (by decide) hf (fun y11 hf => ?_) (fun y11 hf => ?_)
      · refine j_iconst (v := 1) C (by decide) dL_isReached_356 ?_
        refine j_goto C 361 dL_isReached_357 (by decide) ?_
        obtain rfl := Option.some.inj hf
        exact j_zret C hr hk (by decide) ⟨Nat.le_of_ble_eq_true rfl, Nat.le_of_ble_eq_true rfl⟩ rfl dL_isReached_361
      · refine j_aload_n C 1 rfl dL_isReached_349 ?_
        obtain ⟨z12, h13, hf⟩ := bnd_some hf
        refine j_callV (q := 0) (As := []) (rest := []) C (k_X8_hold h13) cw_X8_hold ml_L_110 m_0 ce_0 rfl rfl ⟨Nat.le_of_ble_eq_true rfl, Nat.le_of_ble_eq_true rfl⟩ ⟨Nat.le_of_ble_eq_true rfl, Nat.le_of_ble_eq_true rfl⟩ rfl (Nat.le_of_ble_eq_true rfl) dL_isReached_350 ?_
        refine j_if_ne C 360 dL_isReached_353 (by decide) hf (fun y17 hf => ?_) (fun y17 hf => ?_)
        · refine j_iconst (v := 0) C (by decide) dL_isReached_360 ?_
          obtain rfl := Option.some.inj hf
          exact j_zret C hr hk (by decide) ⟨Nat.le_of_ble_eq_true rfl, Nat.le_of_ble_eq_true rfl⟩ rfl dL_isReached_361
        · refine j_iconst (v := 1) C (by decide) dL_isReached_356 ?_
          refine j_goto C 361 dL_isReached_357 (by decide) ?_
          obtain rfl := Option.some.inj hf
          exact j_zret C hr hk (by decide) ⟨Nat.le_of_ble_eq_true rfl, Nat.le_of_ble_eq_true rfl⟩ rfl dL_isReached_361
set_option maxRecDepth 100000 in
set_option maxHeartbeats 4000000 in
theorem w_L_isReached_325 {b : MS} {p : Program} {l : Launch} {e : Env} {s : State} {m : MethodId} {args : Array Value} {below : List Frame} {meth : Method} {c : Code} {G : GT} {A : Nat → Prop} {ad : Nat → Nat} (C : CX G A RL cL_isReached 10 p s m args c) (hr : meth.sig.returnType = (some .boolean)) (hk : meth.locks = false) {rr : Int32 × KS}   (a : KS) (hf : f_L_isReached_325 a = some rr) : J p l e (RM 6) s m args below meth c G A 10 (MQ below (QV (some (.int rr.1)) (PosW G ad rr.2 b A) A) args s 0 0 A) 0 0 ad a b 325 [(0, .ref (ad 0))] [] := by
  unfold f_L_isReached_325 at hf
  refine j_iconst (v := 1) C (by decide) dL_isReached_325 ?_
  refine j_goto C 330 dL_isReached_326 (by decide) ?_
  refine j_sub [0] rfl ?_
  exact w_L_isReached_330 C hr hk a 1 hf
set_option maxRecDepth 100000 in
set_option maxHeartbeats 4000000 in
theorem w_L_isReached_329 {b : MS} {p : Program} {l : Launch} {e : Env} {s : State} {m : MethodId} {args : Array Value} {below : List Frame} {meth : Method} {c : Code} {G : GT} {A : Nat → Prop} {ad : Nat → Nat} (C : CX G A RL cL_isReached 10 p s m args c) (hr : meth.sig.returnType = (some .boolean)) (hk : meth.locks = false) {rr : Int32 × KS}   (a : KS) (hf : f_L_isReached_329 a = some rr) : J p l e (RM 6) s m args below meth c G A 10 (MQ below (QV (some (.int rr.1)) (PosW G ad rr.2 b A) A) args s 0 0 A) 0 0 ad a b 329 [(0, .ref (ad 0))] [] := by
  unfold f_L_isReached_329 at hf
  refine j_iconst (v := 0) C (by decide) dL_isReached_329 ?_
  refine j_sub [0] rfl ?_
  exact w_L_isReached_330 C hr hk a 0 hf
set_option maxRecDepth 100000 in
set_option maxHeartbeats 4000000 in
theorem w_L_isReached_251 {b : MS} {p : Program} {l : Launch} {e : Env} {s : State} {m : MethodId} {args : Array Value} {below : List Frame} {meth : Method} {c : Code} {G : GT} {A : Nat → Prop} {ad : Nat → Nat} (C : CX G A RL cL_isReached 10 p s m args c) (hr : meth.sig.returnType = (some .boolean)) (hk : meth.locks = false) {rr : Int32 × KS}   (a : KS) (v1 : Int32) (v2 : Int32) (v3 : Int32) (v4 : Int32) (v5 : Int32) (hf : f_L_isReached_251 a v1 v2 v3 v4 v5 = some rr) : J p l e (RM 6) s m args below meth c G A 10 (MQ below (QV (some (.int rr.1)) (PosW G ad rr.2 b A) A) args s 0 0 A) 0 0 ad a b 251 [(0, .ref (ad 0)), (1, .int v1), (2, .int v2), (3, .int v3), (4, .int v4), (5, .int v5)] [] := by
  unfold f_L_isReached_251 at hf
  refine j_iload_n C 2 rfl dL_isReached_251 ?_
  refine j_if_eq C 329 dL_isReached_252 (by decide) hf (fun y1 hf => ?_) (fun y1 hf => ?_)
  · refine j_sub [0] rfl ?_
    exact w_L_isReached_329 C hr hk a hf
  · refine j_aload_n C 0 rfl dL_isReached_255 ?_
    refine j_iconst (v := 1) C (by decide) dL_isReached_256 ?_
    obtain ⟨z2, h3, hf⟩ := bnd_some hf
    obtain ⟨y4, hf⟩ := gd_some hf
    have y4 := of_decide_eq_true y4
    refine j_callV (q := 0) (As := [.int 1]) (rest := []) C (k_X8_events h3 y4) cw_X8_events ml_L_104 m_0 ce_0 rfl rfl ⟨Nat.le_of_ble_eq_true rfl, Nat.le_of_ble_eq_true rfl⟩ ⟨Nat.le_of_ble_eq_true rfl, Nat.le_of_ble_eq_true rfl⟩ rfl (Nat.le_of_ble_eq_true rfl) dL_isReached_257 ?_
    refine j_iload_n C 3 rfl dL_isReached_260 ?_
    refine j_iload C 5 rfl dL_isReached_261 ?_
    refine j_iadd C dL_isReached_263 ?_
    refine j_icmp_ne C 329 dL_isReached_264 (by decide) hf (fun y5 hf => ?_) (fun y5 hf => ?_)
    · refine j_sub [0] rfl ?_
      exact w_L_isReached_329 C hr hk a hf
    · refine j_aload_n C 0 rfl dL_isReached_267 ?_
      refine j_iconst (v := 0) C (by decide) dL_isReached_268 ?_
      obtain ⟨z6, h7, hf⟩ := bnd_some hf
      obtain ⟨y8, hf⟩ := gd_some hf
      have y8 := of_decide_eq_true y8
      refine j_callV (q := 0) (As := [.int 0]) (rest := []) C (k_X8_events h7 y8) cw_X8_events ml_L_104 m_0 ce_0 rfl rfl ⟨Nat.le_of_ble_eq_true rfl, Nat.le_of_ble_eq_true rfl⟩ ⟨Nat.le_of_ble_eq_true rfl, Nat.le_of_ble_eq_true rfl⟩ rfl (Nat.le_of_ble_eq_true rfl) dL_isReached_269 ?_
      refine j_iload C 4 rfl dL_isReached_272 ?_
      refine j_aload_n C 0 rfl dL_isReached_274 ?_
      refine j_iload_n C 1 rfl dL_isReached_275 ?_
      obtain ⟨z9, h10, hf⟩ := bnd_some hf
      obtain ⟨y11, hf⟩ := gd_some hf
      have y11 := of_decide_eq_true y11
      refine j_callV (q := 0) (As := [.int v1]) (rest := [.int v4, .int z6.2]) C (k_X8_detentsTo h10 y11) cw_X8_detentsTo ml_L_87 m_0 ce_0 rfl rfl ⟨Nat.le_of_ble_eq_true rfl, Nat.le_of_ble_eq_true rfl⟩ ⟨Nat.le_of_ble_eq_true rfl, Nat.le_of_ble_eq_true rfl⟩ rfl (Nat.le_of_ble_eq_true rfl) dL_isReached_276 ?_
      refine j_iadd C dL_isReached_279 ?_
      refine j_icmp_ne C 329 dL_isReached_280 (by decide) hf (fun y12 hf => ?_) (fun y12 hf => ?_)
      · refine j_sub [0] rfl ?_
        exact w_L_isReached_329 C hr hk a hf
      · refine j_aload_n C 0 rfl dL_isReached_283 ?_
        refine j_iload_n C 1 rfl dL_isReached_284 ?_
        obtain ⟨z13, h14, hf⟩ := bnd_some hf
        obtain ⟨y15, hf⟩ := gd_some hf
        have y15 := of_decide_eq_true y15
        refine j_callV (q := 0) (As := [.int v1]) (rest := []) C (k_X8_kind h14 y15) cw_X8_kind ml_L_19 m_0 ce_0 rfl rfl ⟨Nat.le_of_ble_eq_true rfl, Nat.le_of_ble_eq_true rfl⟩ ⟨Nat.le_of_ble_eq_true rfl, Nat.le_of_ble_eq_true rfl⟩ rfl (Nat.le_of_ble_eq_true rfl) dL_isReached_285 ?_
        refine j_if_ne C 309 dL_isReached_288 (by decide) hf (fun y16 hf => ?_) (fun y16 hf => ?_)
        · refine j_aload_n C 0 rfl dL_isReached_309 ?_
          obtain ⟨z17, h18, hf⟩ := bnd_some hf
          refine j_callV (q := 0) (As := []) (rest := []) C (k_X8_mode h18) cw_X8_mode ml_L_61 m_0 ce_0 rfl rfl ⟨Nat.le_of_ble_eq_true rfl, Nat.le_of_ble_eq_true rfl⟩ ⟨Nat.le_of_ble_eq_true rfl, Nat.le_of_ble_eq_true rfl⟩ rfl (Nat.le_of_ble_eq_true rfl) dL_isReached_310 ?_
          refine j_iconst (v := 1) C (by decide) dL_isReached_313 ?_
          refine j_icmp_ne C 329 dL_isReached_314 (by decide) hf (fun y20 hf => ?_) (fun y20 hf => ?_)
          · refine j_sub [0] rfl ?_
            exact w_L_isReached_329 C hr hk a hf
          · refine j_aload_n C 0 rfl dL_isReached_317 ?_
            obtain ⟨z21, h22, hf⟩ := bnd_some hf
            refine j_callV (q := 0) (As := []) (rest := []) C (k_X8_chosen h22) cw_X8_chosen ml_L_134 m_0 ce_0 rfl rfl ⟨Nat.le_of_ble_eq_true rfl, Nat.le_of_ble_eq_true rfl⟩ ⟨Nat.le_of_ble_eq_true rfl, Nat.le_of_ble_eq_true rfl⟩ rfl (Nat.le_of_ble_eq_true rfl) dL_isReached_318 ?_
            refine j_iload_n C 1 rfl dL_isReached_321 ?_
            refine j_icmp_ne C 329 dL_isReached_322 (by decide) hf (fun y24 hf => ?_) (fun y24 hf => ?_)
            · refine j_sub [0] rfl ?_
              exact w_L_isReached_329 C hr hk a hf
            · refine j_sub [0] rfl ?_
              exact w_L_isReached_325 C hr hk a hf
        · refine j_aload_n C 0 rfl dL_isReached_291 ?_
          obtain ⟨z25, h26, hf⟩ := bnd_some hf
          refine j_callV (q := 0) (As := []) (rest := []) C (k_X8_shown h26) cw_X8_shown ml_L_75 m_0 ce_0 rfl rfl ⟨Nat.le_of_ble_eq_true rfl, Nat.le_of_ble_eq_true rfl⟩ ⟨Nat.le_of_ble_eq_true rfl, Nat.le_of_ble_eq_true rfl⟩ rfl (Nat.le_of_ble_eq_true rfl) dL_isReached_292 ?_
          refine j_iload_n C 1 rfl dL_isReached_295 ?_
          refine j_icmp_ne C 329 dL_isReached_296 (by decide) hf (fun y28 hf => ?_) (fun y28 hf => ?_)
          · refine j_sub [0] rfl ?_
            exact w_L_isReached_329 C hr hk a hf
          · refine j_aload_n C 0 rfl dL_isReached_299 ?_
            obtain ⟨z29, h30, hf⟩ := bnd_some hf
            refine j_callV (q := 0) (As := []) (rest := []) C (k_X8_mode h30) cw_X8_mode ml_L_61 m_0 ce_0 rfl rfl ⟨Nat.le_of_ble_eq_true rfl, Nat.le_of_ble_eq_true rfl⟩ ⟨Nat.le_of_ble_eq_true rfl, Nat.le_of_ble_eq_true rfl⟩ rfl (Nat.le_of_ble_eq_true rfl) dL_isReached_300 ?_
            refine j_if_ne C 329 dL_isReached_303 (by decide) hf (fun y32 hf => ?_) (fun y32 hf => ?_)
            · refine j_sub [0] rfl ?_
              exact w_L_isReached_329 C hr hk a hf
            · refine j_goto C 325 dL_isReached_306 (by decide) ?_
              refine j_sub [0] rfl ?_
              exact w_L_isReached_325 C hr hk a hf
set_option maxRecDepth 100000 in
set_option maxHeartbeats 4000000 in
theorem w_L_isReached_83 {b : MS} {p : Program} {l : Launch} {e : Env} {s : State} {m : MethodId} {args : Array Value} {below : List Frame} {meth : Method} {c : Code} {G : GT} {A : Nat → Prop} {ad : Nat → Nat} (C : CX G A RL cL_isReached 10 p s m args c) (hr : meth.sig.returnType = (some .boolean)) (hk : meth.locks = false) {rr : Int32 × KS} (c83 : KS → Int32 → Int32 → Int32 → Int32 → Int32 → Int32 → Option (Int32 × KS)) (K83 : ∀ (a : KS) (v1 : Int32) (v2 : Int32) (v3 : Int32) (v4 : Int32) (v5 : Int32) (v6 : Int32), c83 a v1 v2 v3 v4 v5 v6 = some rr → J p l e (RM 6) s m args below meth c G A 10 (MQ below (QV (some (.int rr.1)) (PosW G ad rr.2 b A) A) args s 0 0 A) 0 0 ad a b 83 [(0, .ref (ad 0)), (1, .int v1), (2, .int v2), (3, .int v3), (4, .int v4), (5, .int v5), (6, .int v6)] []) (a : KS) (v1 : Int32) (v2 : Int32) (v3 : Int32) (v4 : Int32) (v5 : Int32) (v6 : Int32) (hf : f_L_isReached_83 c83 a v1 v2 v3 v4 v5 v6 = some rr) : J p l e (RM 6) s m args below meth c G A 10 (MQ below (QV (some (.int rr.1)) (PosW G ad rr.2 b A) A) args s 0 0 A) 0 0 ad a b 83 [(0, .ref (ad 0)), (1, .int v1), (2, .int v2), (3, .int v3), (4, .int v4), (5, .int v5), (6, .int v6)] [] := by
  unfold f_L_isReached_83 at hf
  refine j_iload C 6 rfl dL_isReached_83 ?_
  refine j_if_le C 251 dL_isReached_85 (by decide) hf (fun y1 hf => ?_) (fun y1 hf => ?_)
  · refine j_sub [0, 1, 2, 3, 4, 5] rfl ?_
    exact w_L_isReached_251 C hr hk a v1 v2 v3 v4 v5 hf
  · refine j_iload_n C 2 rfl dL_isReached_88 ?_
    refine j_if_eq C 251 dL_isReached_89 (by decide) hf (fun y2 hf => ?_) (fun y2 hf => ?_)
    · refine j_sub [0, 1, 2, 3, 4, 5] rfl ?_
      exact w_L_isReached_251 C hr hk a v1 v2 v3 v4 v5 hf
    · refine j_iload_n C 1 rfl dL_isReached_92 ?_
      refine j_istore (lv' := [(7, .int v1), (0, .ref (ad 0)), (1, .int v1), (2, .int v2), (3, .int v3), (4, .int v4), (5, .int v5), (6, .int v6)]) C dL_isReached_93 (by decide) rfl ?_
      refine j_iconst (v := 1) C (by decide) dL_isReached_95 ?_
      refine j_istore (lv' := [(8, .int 1), (7, .int v1), (0, .ref (ad 0)), (1, .int v1), (2, .int v2), (3, .int v3), (4, .int v4), (5, .int v5), (6, .int v6)]) C dL_isReached_96 (by decide) rfl ?_
      refine j_sub [2, 3, 5, 6, 7, 8, 1, 0] rfl ?_
      exact wl_L_isReached_98 C hr hk FU c83 K83 a v1 v3 v4 v5 v6 v1 1 hf
theorem wl_L_isReached_83 {b : MS} {p : Program} {l : Launch} {e : Env} {s : State} {m : MethodId} {args : Array Value} {below : List Frame} {meth : Method} {c : Code} {G : GT} {A : Nat → Prop} {ad : Nat → Nat} (C : CX G A RL cL_isReached 10 p s m args c) (hr : meth.sig.returnType = (some .boolean)) (hk : meth.locks = false) {rr : Int32 × KS} (fuel : Nat)   : ∀ (a : KS) (v1 : Int32) (v2 : Int32) (v3 : Int32) (v4 : Int32) (v5 : Int32) (v6 : Int32), l_L_isReached_83 fuel  a v1 v2 v3 v4 v5 v6 = some rr → J p l e (RM 6) s m args below meth c G A 10 (MQ below (QV (some (.int rr.1)) (PosW G ad rr.2 b A) A) args s 0 0 A) 0 0 ad a b 83 [(0, .ref (ad 0)), (1, .int v1), (2, .int v2), (3, .int v3), (4, .int v4), (5, .int v5), (6, .int v6)] [] := by
  induction fuel with
  | zero => intro a v1 v2 v3 v4 v5 v6 hf; cases hf
  | succ n ih =>
    intro a v1 v2 v3 v4 v5 v6 hf
    have hf : f_L_isReached_83 (l_L_isReached_83 n ) a v1 v2 v3 v4 v5 v6 = some rr := hf
    exact w_L_isReached_83 C hr hk (l_L_isReached_83 n ) ih a v1 v2 v3 v4 v5 v6 hf
set_option maxRecDepth 100000 in
set_option maxHeartbeats 4000000 in
theorem w_L_isReached_40 {b : MS} {p : Program} {l : Launch} {e : Env} {s : State} {m : MethodId} {args : Array Value} {below : List Frame} {meth : Method} {c : Code} {G : GT} {A : Nat → Prop} {ad : Nat → Nat} (C : CX G A RL cL_isReached 10 p s m args c) (hr : meth.sig.returnType = (some .boolean)) (hk : meth.locks = false) {rr : Int32 × KS}   (a : KS) (v1 : Int32) (s0 : Int32) (hf : f_L_isReached_40 a v1 s0 = some rr) : J p l e (RM 6) s m args below meth c G A 10 (MQ below (QV (some (.int rr.1)) (PosW G ad rr.2 b A) A) args s 0 0 A) 0 0 ad a b 40 [(0, .ref (ad 0)), (1, .int v1)] [.int s0] := by
  unfold f_L_isReached_40 at hf
  refine j_istore_n (i := 2) (lv' := [(2, .int s0), (0, .ref (ad 0)), (1, .int v1)]) C dL_isReached_40 rfl (by decide) rfl ?_
  refine j_iload_n C 0 rfl dL_isReached_41 ?_
  refine j_if_eq C 57 dL_isReached_42 (by decide) hf (fun y1 hf => ?_) (fun y1 hf => ?_)
  · refine j_iload_n C 0 rfl dL_isReached_57 ?_
    obtain ⟨h2, hf⟩ := gd_some hf
    obtain rfl := Option.some.inj hf
    exact j_zret C hr hk (okz_n h2) ⟨Nat.le_of_ble_eq_true rfl, Nat.le_of_ble_eq_true rfl⟩ rfl dL_isReached_58
  · refine j_aload_n C 1 rfl dL_isReached_45 ?_
    refine j_iload_n C 2 rfl dL_isReached_46 ?_
    obtain ⟨z3, h4, hf⟩ := bnd_some hf
    obtain ⟨y5, hf⟩ := gd_some hf
    have y5 := of_decide_eq_true y5
    refine j_callV (q := 0) (As := [.int v1]) (rest := []) C (k_X8_codesTo h4 y5) cw_X8_codesTo ml_L_90 m_0 ce_0 rfl rfl ⟨Nat.le_of_ble_eq_true rfl, Nat.le_of_ble_eq_true rfl⟩ ⟨Nat.le_of_ble_eq_true rfl, Nat.le_of_ble_eq_true rfl⟩ rfl (Nat.le_of_ble_eq_true rfl) dL_isReached_47 ?_
    refine j_if_gt C 57 dL_isReached_50 (by decide) hf (fun y6 hf => ?_) (fun y6 hf => ?_)
    · refine j_iload_n C 0 rfl dL_isReached_57 ?_
      obtain ⟨h7, hf⟩ := gd_some hf
      obtain rfl := Option.some.inj hf
      exact j_zret C hr hk (okz_n h7) ⟨Nat.le_of_ble_eq_true rfl, Nat.le_of_ble_eq_true rfl⟩ rfl dL_isReached_58
    · refine j_iload_n C 2 rfl dL_isReached_53 ?_
      refine j_if_ne C 59 dL_isReached_54 (by decide) hf (fun y8 hf => ?_) (fun y8 hf => ?_)
      · refine j_aload_n C 1 rfl dL_isReached_59 ?_
        refine j_iconst (v := 1) C (by decide) dL_isReached_60 ?_
        obtain ⟨z9, h10, hf⟩ := bnd_some hf
        obtain ⟨y11, hf⟩ := gd_some hf
        have y11 := of_decide_eq_true y11
        refine j_callV (q := 0) (As := [.int 1]) (rest := []) C (k_X8_events h10 y11) cw_X8_events ml_L_104 m_0 ce_0 rfl rfl ⟨Nat.le_of_ble_eq_true rfl, Nat.le_of_ble_eq_true rfl⟩ ⟨Nat.le_of_ble_eq_true rfl, Nat.le_of_ble_eq_true rfl⟩ rfl (Nat.le_of_ble_eq_true rfl) dL_isReached_61 ?_
        refine j_istore_n (i := 3) (lv' := [(3, .int z9.2), (2, .int s0), (0, .ref (ad 0)), (1, .int v1)]) C dL_isReached_64 rfl (by decide) rfl ?_
        refine j_aload_n C 2 rfl dL_isReached_65 ?_
        refine j_iconst (v := 0) C (by decide) dL_isReached_66 ?_
        obtain ⟨z12, h13, hf⟩ := bnd_some hf
        obtain ⟨y14, hf⟩ := gd_some hf
        have y14 := of_decide_eq_true y14
        refine j_callV (q := 0) (As := [.int 0]) (rest := []) C (k_X8_events h13 y14) cw_X8_events ml_L_104 m_0 ce_0 rfl rfl ⟨Nat.le_of_ble_eq_true rfl, Nat.le_of_ble_eq_true rfl⟩ ⟨Nat.le_of_ble_eq_true rfl, Nat.le_of_ble_eq_true rfl⟩ rfl (Nat.le_of_ble_eq_true rfl) dL_isReached_67 ?_
        refine j_istore (lv' := [(4, .int z12.2), (3, .int z9.2), (2, .int s0), (0, .ref (ad 0)), (1, .int v1)]) C dL_isReached_70 (by decide) rfl ?_
        refine j_aload_n C 3 rfl dL_isReached_72 ?_
        refine j_iload_n C 4 rfl dL_isReached_73 ?_
        obtain ⟨z15, h16, hf⟩ := bnd_some hf
        obtain ⟨y17, hf⟩ := gd_some hf
        have y17 := of_decide_eq_true y17
        refine j_callV (q := 0) (As := [.int v1]) (rest := []) C (k_X8_pressesTo h16 y17) cw_X8_pressesTo ml_L_26 m_0 ce_0 rfl rfl ⟨Nat.le_of_ble_eq_true rfl, Nat.le_of_ble_eq_true rfl⟩ ⟨Nat.le_of_ble_eq_true rfl, Nat.le_of_ble_eq_true rfl⟩ rfl (Nat.le_of_ble_eq_true rfl) dL_isReached_74 ?_
        refine j_istore (lv' := [(5, .int z15.2), (4, .int z12.2), (3, .int z9.2), (2, .int s0), (0, .ref (ad 0)), (1, .int v1)]) C dL_isReached_77 (by decide) rfl ?_
        refine j_iload C 0 rfl dL_isReached_79 ?_
        refine j_istore (lv' := [(6, .int z15.2), (5, .int z15.2), (4, .int z12.2), (3, .int z9.2), (2, .int s0), (0, .ref (ad 0)), (1, .int v1)]) C dL_isReached_81 (by decide) rfl ?_
        refine j_sub [5, 6, 4, 3, 2, 1, 0] rfl ?_
        exact wl_L_isReached_83 C hr hk FU a v1 s0 z9.2 z12.2 z15.2 z15.2 hf
      · refine j_iload_n C 0 rfl dL_isReached_57 ?_
        obtain ⟨h18, hf⟩ := gd_some hf
        obtain rfl := Option.some.inj hf
        exact j_zret C hr hk (okz_n h18) ⟨Nat.le_of_ble_eq_true rfl, Nat.le_of_ble_eq_true rfl⟩ rfl dL_isReached_58
set_option maxRecDepth 100000 in
set_option maxHeartbeats 4000000 in
theorem w_L_isReached_39 {b : MS} {p : Program} {l : Launch} {e : Env} {s : State} {m : MethodId} {args : Array Value} {below : List Frame} {meth : Method} {c : Code} {G : GT} {A : Nat → Prop} {ad : Nat → Nat} (C : CX G A RL cL_isReached 10 p s m args c) (hr : meth.sig.returnType = (some .boolean)) (hk : meth.locks = false) {rr : Int32 × KS}   (a : KS) (v1 : Int32) (hf : f_L_isReached_39 a v1 = some rr) : J p l e (RM 6) s m args below meth c G A 10 (MQ below (QV (some (.int rr.1)) (PosW G ad rr.2 b A) A) args s 0 0 A) 0 0 ad a b 39 [(0, .ref (ad 0)), (1, .int v1)] [] := by
  unfold f_L_isReached_39 at hf
  refine j_iconst (v := 0) C (by decide) dL_isReached_39 ?_
  refine j_sub [0, 1] rfl ?_
  exact w_L_isReached_40 C hr hk a v1 0 hf
set_option maxRecDepth 100000 in
set_option maxHeartbeats 4000000 in
theorem w_L_isReached_28 {b : MS} {p : Program} {l : Launch} {e : Env} {s : State} {m : MethodId} {args : Array Value} {below : List Frame} {meth : Method} {c : Code} {G : GT} {A : Nat → Prop} {ad : Nat → Nat} (C : CX G A RL cL_isReached 10 p s m args c) (hr : meth.sig.returnType = (some .boolean)) (hk : meth.locks = false) {rr : Int32 × KS}   (a : KS) (v1 : Int32) (hf : f_L_isReached_28 a v1 = some rr) : J p l e (RM 6) s m args below meth c G A 10 (MQ below (QV (some (.int rr.1)) (PosW G ad rr.2 b A) A) args s 0 0 A) 0 0 ad a b 28 [(0, .ref (ad 0)), (1, .int v1)] [] := by
  unfold f_L_isReached_28 at hf
  refine j_aload_n C 0 rfl dL_isReached_28 ?_
  obtain ⟨z1, h2, hf⟩ := bnd_some hf
  refine j_callV (q := 0) (As := []) (rest := []) C (k_X8_isHome h2) cw_X8_isHome ml_L_71 m_0 ce_0 rfl rfl ⟨Nat.le_of_ble_eq_true rfl, Nat.le_of_ble_eq_true rfl⟩ ⟨Nat.le_of_ble_eq_true rfl, Nat.le_of_ble_eq_true rfl⟩ rfl (Nat.le_of_ble_eq_true rfl) dL_isReached_29 ?_
  refine j_if_eq C 39 dL_isReached_32 (by decide) hf (fun y4 hf => ?_) (fun y4 hf => ?_)
  · refine j_sub [0, 1] rfl ?_
    exact w_L_isReached_39 C hr hk a v1 hf
  · refine j_iconst (v := 1) C (by decide) dL_isReached_35 ?_
    refine j_goto C 40 dL_isReached_36 (by decide) ?_
    refine j_sub [0, 1] rfl ?_
    exact w_L_isReached_40 C hr hk a v1 1 hf
set_option maxRecDepth 100000 in
set_option maxHeartbeats 4000000 in
theorem w_L_isReached_21 {b : MS} {p : Program} {l : Launch} {e : Env} {s : State} {m : MethodId} {args : Array Value} {below : List Frame} {meth : Method} {c : Code} {G : GT} {A : Nat → Prop} {ad : Nat → Nat} (C : CX G A RL cL_isReached 10 p s m args c) (hr : meth.sig.returnType = (some .boolean)) (hk : meth.locks = false) {rr : Int32 × KS}   (a : KS) (v1 : Int32) (hf : f_L_isReached_21 a v1 = some rr) : J p l e (RM 6) s m args below meth c G A 10 (MQ below (QV (some (.int rr.1)) (PosW G ad rr.2 b A) A) args s 0 0 A) 0 0 ad a b 21 [(0, .ref (ad 0)), (1, .int v1)] [] := by
  unfold f_L_isReached_21 at hf
  refine j_aload_n C 0 rfl dL_isReached_21 ?_
  obtain ⟨z1, h2, hf⟩ := bnd_some hf
  refine j_callV (q := 0) (As := []) (rest := []) C (k_X8_hold h2) cw_X8_hold ml_L_110 m_0 ce_0 rfl rfl ⟨Nat.le_of_ble_eq_true rfl, Nat.le_of_ble_eq_true rfl⟩ ⟨Nat.le_of_ble_eq_true rfl, Nat.le_of_ble_eq_true rfl⟩ rfl (Nat.le_of_ble_eq_true rfl) dL_isReached_22 ?_
  refine j_if_ne C 39 dL_isReached_25 (by decide) hf (fun y6 hf => ?_) (fun y6 hf => ?_)
  · refine j_sub [0, 1] rfl ?_
    exact w_L_isReached_39 C hr hk z1.2 v1 hf
  · refine j_sub [0, 1] rfl ?_
    exact w_L_isReached_28 C hr hk z1.2 v1 hf
set_option maxRecDepth 100000 in
set_option maxHeartbeats 4000000 in
theorem k_L_isReached {l : Launch} {G : GT} {ad : Nat → Nat} {a : KS} {v1 : Int32} {b : MS} {rr : Int32 × KS} (hf : f_L_isReached a v1 = some rr) : MT l G yL_isReached cL_isReached 10 (some .boolean) (RM 6) [.ref (ad 0), .int v1] ad a b (some (.int rr.1)) rr.2 b := by
  refine MT_of (by decide) (Nat.le_of_ble_eq_true rfl) ?_
  intro p e s m args below meth c A C hr hk
  unfold f_L_isReached at hf
  refine j_aload_n C 0 rfl dL_isReached_0 ?_
  obtain ⟨z1, h2, hf⟩ := bnd_some hf
  refine j_callV (q := 0) (As := []) (rest := []) C (k_X8_hold h2) cw_X8_hold ml_L_110 m_0 ce_0 rfl rfl ⟨Nat.le_of_ble_eq_true rfl, Nat.le_of_ble_eq_true rfl⟩ ⟨Nat.le_of_ble_eq_true rfl, Nat.le_of_ble_eq_true rfl⟩ rfl (Nat.le_of_ble_eq_true rfl) dL_isReached_1 ?_
  refine j_if_lt C 39 dL_isReached_4 (by decide) hf (fun y6 hf => ?_) (fun y6 hf => ?_)
  · refine j_sub [0, 1] rfl ?_
    exact w_L_isReached_39 C hr hk z1.2 v1 hf
  · refine j_aload_n C 0 rfl dL_isReached_7 ?_
    obtain ⟨z7, h8, hf⟩ := bnd_some hf
    refine j_callV (q := 0) (As := []) (rest := []) C (k_X8_mode h8) cw_X8_mode ml_L_61 m_0 ce_0 rfl rfl ⟨Nat.le_of_ble_eq_true rfl, Nat.le_of_ble_eq_true rfl⟩ ⟨Nat.le_of_ble_eq_true rfl, Nat.le_of_ble_eq_true rfl⟩ rfl (Nat.le_of_ble_eq_true rfl) dL_isReached_8 ?_
    refine j_if_ne C 21 dL_isReached_11 (by decide) hf (fun y10 hf => ?_) (fun y10 hf => ?_)
    · refine j_sub [0, 1] rfl ?_
      exact w_L_isReached_21 C hr hk z1.2 v1 hf
    · refine j_aload_n C 0 rfl dL_isReached_14 ?_
      obtain ⟨z11, h12, hf⟩ := bnd_some hf
      refine j_callV (q := 0) (As := []) (rest := []) C (k_X8_isHome h12) cw_X8_isHome ml_L_71 m_0 ce_0 rfl rfl ⟨Nat.le_of_ble_eq_true rfl, Nat.le_of_ble_eq_true rfl⟩ ⟨Nat.le_of_ble_eq_true rfl, Nat.le_of_ble_eq_true rfl⟩ rfl (Nat.le_of_ble_eq_true rfl) dL_isReached_15 ?_
      refine j_if_ne C 28 dL_isReached_18 (by decide) hf (fun y14 hf => ?_) (fun y14 hf => ?_)
      · refine j_sub [0, 1] rfl ?_
        exact w_L_isReached_28 C hr hk z1.2 v1 hf
      · refine j_sub [0, 1] rfl ?_
        exact w_L_isReached_21 C hr hk z1.2 v1 hf
set_option maxRecDepth 100000 in
set_option maxHeartbeats 4000000 in
theorem w_L_isLeft_25 {b : MS} {p : Program} {l : Launch} {e : Env} {s : State} {m : MethodId} {args : Array Value} {below : List Frame} {meth : Method} {c : Code} {G : GT} {A : Nat → Prop} {ad : Nat → Nat} (C : CX G A RL cL_isLeft 3 p s m args c) (hr : meth.sig.returnType = (some .boolean)) (hk : meth.locks = false) {rr : Int32 × KS}   (a : KS) (v1 : Int32) (s0 : Int32) (hf : f_L_isLeft_25 a v1 s0 = some rr) : J p l e (RM 7) s m args below meth c G A 3 (MQ below (QV (some (.int rr.1)) (PosW G ad rr.2 b A) A) args s 0 0 A) 0 0 ad a b 25 [(0, .ref (ad 0)), (1, .int v1)] [.int s0] := by
  unfold f_L_isLeft_25 at hf
  refine j_aload_n C 0 rfl dL_isLeft_25 ?_
  obtain ⟨z1, h2, hf⟩ := bnd_some hf
  refine j_callV (q := 0) (As := []) (rest := [.int s0]) C (k_X8_isHome h2) cw_X8_isHome ml_L_71 m_0 ce_0 rfl rfl ⟨Nat.le_of_ble_eq_true rfl, Nat.le_of_ble_eq_true rfl⟩ ⟨Nat.le_of_ble_eq_true rfl, Nat.le_of_ble_eq_true rfl⟩ rfl (Nat.le_of_ble_eq_true rfl) dL_isLeft_26 ?_
  refine j_icmp_ne C 47 dL_isLeft_29 (by decide) hf (fun y4 hf => ?_) (fun y4 hf => ?_)
  · refine j_iconst (v := 0) C (by decide) dL_isLeft_47 ?_
    obtain rfl := Option.some.inj hf
    exact j_zret C hr hk (by decide) ⟨Nat.le_of_ble_eq_true rfl, Nat.le_of_ble_eq_true rfl⟩ rfl dL_isLeft_48
  · refine j_iload_n C 1 rfl dL_isLeft_32 ?_
    refine j_iconst (v := -1) C (by decide) dL_isLeft_33 ?_
    refine j_icmp_lt C 47 dL_isLeft_34 (by decide) hf (fun y5 hf => ?_) (fun y5 hf => ?_)
    · refine j_iconst (v := 0) C (by decide) dL_isLeft_47 ?_
      obtain rfl := Option.some.inj hf
      exact j_zret C hr hk (by decide) ⟨Nat.le_of_ble_eq_true rfl, Nat.le_of_ble_eq_true rfl⟩ rfl dL_isLeft_48
    · refine j_iload_n C 1 rfl dL_isLeft_37 ?_
      refine j_bipush (v := 99) C (by decide) dL_isLeft_38 ?_
      refine j_icmp_gt C 47 dL_isLeft_40 (by decide) hf (fun y6 hf => ?_) (fun y6 hf => ?_)
      · refine j_iconst (v := 0) C (by decide) dL_isLeft_47 ?_
        obtain rfl := Option.some.inj hf
        exact j_zret C hr hk (by decide) ⟨Nat.le_of_ble_eq_true rfl, Nat.le_of_ble_eq_true rfl⟩ rfl dL_isLeft_48
      · refine j_iconst (v := 1) C (by decide) dL_isLeft_43 ?_
        refine j_goto C 48 dL_isLeft_44 (by decide) ?_
        obtain rfl := Option.some.inj hf
        exact j_zret C hr hk (by decide) ⟨Nat.le_of_ble_eq_true rfl, Nat.le_of_ble_eq_true rfl⟩ rfl dL_isLeft_48
set_option maxRecDepth 100000 in
set_option maxHeartbeats 4000000 in
theorem w_L_isLeft_16 {b : MS} {p : Program} {l : Launch} {e : Env} {s : State} {m : MethodId} {args : Array Value} {below : List Frame} {meth : Method} {c : Code} {G : GT} {A : Nat → Prop} {ad : Nat → Nat} (C : CX G A RL cL_isLeft 3 p s m args c) (hr : meth.sig.returnType = (some .boolean)) (hk : meth.locks = false) {rr : Int32 × KS}   (a : KS) (v1 : Int32) (hf : f_L_isLeft_16 a v1 = some rr) : J p l e (RM 7) s m args below meth c G A 3 (MQ below (QV (some (.int rr.1)) (PosW G ad rr.2 b A) A) args s 0 0 A) 0 0 ad a b 16 [(0, .ref (ad 0)), (1, .int v1)] [] := by
  unfold f_L_isLeft_16 at hf
  refine j_iload_n C 1 rfl dL_isLeft_16 ?_
  refine j_if_ne C 24 dL_isLeft_17 (by decide) hf (fun y1 hf => ?_) (fun y1 hf => ?_)
  · refine j_iconst (v := 0) C (by decide) dL_isLeft_24 ?_
    refine j_sub [0, 1] rfl ?_
    exact w_L_isLeft_25 C hr hk a v1 0 hf
  · refine j_iconst (v := 1) C (by decide) dL_isLeft_20 ?_
    refine j_goto C 25 dL_isLeft_21 (by decide) ?_
    refine j_sub [0, 1] rfl ?_
    exact w_L_isLeft_25 C hr hk a v1 1 hf
set_option maxRecDepth 100000 in
set_option maxHeartbeats 4000000 in
theorem w_L_isLeft_84 {b : MS} {p : Program} {l : Launch} {e : Env} {s : State} {m : MethodId} {args : Array Value} {below : List Frame} {meth : Method} {c : Code} {G : GT} {A : Nat → Prop} {ad : Nat → Nat} (C : CX G A RL cL_isLeft 3 p s m args c) (hr : meth.sig.returnType = (some .boolean)) (hk : meth.locks = false) {rr : Int32 × KS}   (a : KS) (s0 : Int32) (hf : f_L_isLeft_84 a s0 = some rr) : J p l e (RM 7) s m args below meth c G A 3 (MQ below (QV (some (.int rr.1)) (PosW G ad rr.2 b A) A) args s 0 0 A) 0 0 ad a b 84 [(0, .ref (ad 0))] [.int s0] := by
  unfold f_L_isLeft_84 at hf
  refine j_istore_n (i := 2) (lv' := [(2, .int s0), (0, .ref (ad 0))]) C dL_isLeft_84 rfl (by decide) rfl ?_
  refine j_iload_n C 0 rfl dL_isLeft_85 ?_
  refine j_if_eq C 108 dL_isLeft_86 (by decide) hf (fun y1 hf => ?_) (fun y1 hf => ?_)
  · refine j_iconst (v := 0) C (by decide) dL_isLeft_108 ?_
    obtain rfl := Option.some.inj hf
    exact j_zret C hr hk (by decide) ⟨Nat.le_of_ble_eq_true rfl, Nat.le_of_ble_eq_true rfl⟩ rfl dL_isLeft_109
  · refine j_aload_n C 1 rfl dL_isLeft_89 ?_
    refine j_iconst (v := 1) C (by decide) dL_isLeft_90 ?_
    obtain ⟨z2, h3, hf⟩ := bnd_some hf
    obtain ⟨y4, hf⟩ := gd_some hf
    have y4 := of_decide_eq_true y4
    refine j_callV (q := 0) (As := [.int 1]) (rest := []) C (k_X8_tick h3 y4) cw_X8_tick ml_L_116 m_0 ce_0 rfl rfl ⟨Nat.le_of_ble_eq_true rfl, Nat.le_of_ble_eq_true rfl⟩ ⟨Nat.le_of_ble_eq_true rfl, Nat.le_of_ble_eq_true rfl⟩ rfl (Nat.le_of_ble_eq_true rfl) dL_isLeft_91 ?_
    refine j_if_le C 108 dL_isLeft_94 (by decide) hf (fun y7 hf => ?_) (fun y7 hf => ?_)
    · refine j_iconst (v := 0) C (by decide) dL_isLeft_108 ?_
      obtain rfl := Option.some.inj hf
      exact j_zret C hr hk (by decide) ⟨Nat.le_of_ble_eq_true rfl, Nat.le_of_ble_eq_true rfl⟩ rfl dL_isLeft_109
    · refine j_aload_n C 1 rfl dL_isLeft_97 ?_
      obtain ⟨z8, h9, hf⟩ := bnd_some hf
      refine j_callV (q := 0) (As := []) (rest := []) C (k_X8_isHome h9) cw_X8_isHome ml_L_71 m_0 ce_0 rfl rfl ⟨Nat.le_of_ble_eq_true rfl, Nat.le_of_ble_eq_true rfl⟩ ⟨Nat.le_of_ble_eq_true rfl, Nat.le_of_ble_eq_true rfl⟩ rfl (Nat.le_of_ble_eq_true rfl) dL_isLeft_98 ?_
      refine j_if_eq C 108 dL_isLeft_101 (by decide) hf (fun y11 hf => ?_) (fun y11 hf => ?_)
      · refine j_iconst (v := 0) C (by decide) dL_isLeft_108 ?_
        obtain rfl := Option.some.inj hf
        exact j_zret C hr hk (by decide) ⟨Nat.le_of_ble_eq_true rfl, Nat.le_of_ble_eq_true rfl⟩ rfl dL_isLeft_109
      · refine j_iconst (v := 1) C (by decide) dL_isLeft_104 ?_
        refine j_goto C 109 dL_isLeft_105 (by decide) ?_
        obtain rfl := Option.some.inj hf
        exact j_zret C hr hk (by decide) ⟨Nat.le_of_ble_eq_true rfl, Nat.le_of_ble_eq_true rfl⟩ rfl dL_isLeft_109
set_option maxRecDepth 100000 in
set_option maxHeartbeats 4000000 in
theorem w_L_isLeft_79 {b : MS} {p : Program} {l : Launch} {e : Env} {s : State} {m : MethodId} {args : Array Value} {below : List Frame} {meth : Method} {c : Code} {G : GT} {A : Nat → Prop} {ad : Nat → Nat} (C : CX G A RL cL_isLeft 3 p s m args c) (hr : meth.sig.returnType = (some .boolean)) (hk : meth.locks = false) {rr : Int32 × KS}   (a : KS) (hf : f_L_isLeft_79 a = some rr) : J p l e (RM 7) s m args below meth c G A 3 (MQ below (QV (some (.int rr.1)) (PosW G ad rr.2 b A) A) args s 0 0 A) 0 0 ad a b 79 [(0, .ref (ad 0))] [] := by
  unfold f_L_isLeft_79 at hf
  refine j_iconst (v := 1) C (by decide) dL_isLeft_79 ?_
  refine j_goto C 84 dL_isLeft_80 (by decide) ?_
  refine j_sub [0] rfl ?_
  exact w_L_isLeft_84 C hr hk a 1 hf
set_option maxRecDepth 100000 in
set_option maxHeartbeats 4000000 in
theorem w_L_isLeft_83 {b : MS} {p : Program} {l : Launch} {e : Env} {s : State} {m : MethodId} {args : Array Value} {below : List Frame} {meth : Method} {c : Code} {G : GT} {A : Nat → Prop} {ad : Nat → Nat} (C : CX G A RL cL_isLeft 3 p s m args c) (hr : meth.sig.returnType = (some .boolean)) (hk : meth.locks = false) {rr : Int32 × KS}   (a : KS) (hf : f_L_isLeft_83 a = some rr) : J p l e (RM 7) s m args below meth c G A 3 (MQ below (QV (some (.int rr.1)) (PosW G ad rr.2 b A) A) args s 0 0 A) 0 0 ad a b 83 [(0, .ref (ad 0))] [] := by
  unfold f_L_isLeft_83 at hf
  refine j_iconst (v := 0) C (by decide) dL_isLeft_83 ?_
  refine j_sub [0] rfl ?_
  exact w_L_isLeft_84 C hr hk a 0 hf
set_option maxRecDepth 100000 in
set_option maxHeartbeats 4000000 in
theorem k_L_isLeft {l : Launch} {G : GT} {ad : Nat → Nat} {a : KS} {b : MS} {rr : Int32 × KS} (hf : f_L_isLeft a = some rr) : MT l G yL_isLeft cL_isLeft 3 (some .boolean) (RM 7) [.ref (ad 0)] ad a b (some (.int rr.1)) rr.2 b := by
  refine MT_of (by decide) (Nat.le_of_ble_eq_true rfl) ?_
  intro p e s m args below meth c A C hr hk
  unfold f_L_isLeft at hf
  refine j_aload_n C 0 rfl dL_isLeft_0 ?_
  obtain ⟨z1, h2, hf⟩ := bnd_some hf
  refine j_callV (q := 0) (As := []) (rest := []) C (k_X8_ticksToHome h2) cw_X8_ticksToHome ml_L_81 m_0 ce_0 rfl rfl ⟨Nat.le_of_ble_eq_true rfl, Nat.le_of_ble_eq_true rfl⟩ ⟨Nat.le_of_ble_eq_true rfl, Nat.le_of_ble_eq_true rfl⟩ rfl (Nat.le_of_ble_eq_true rfl) dL_isLeft_1 ?_
  refine j_istore_n (i := 1) (lv' := [(1, .int z1), (0, .ref (ad 0))]) C dL_isLeft_4 rfl (by decide) rfl ?_
  refine j_iload_n C 0 rfl dL_isLeft_5 ?_
  refine j_iconst (v := 1) C (by decide) dL_isLeft_6 ?_
  refine j_icmp_lt C 16 dL_isLeft_7 (by decide) hf (fun y4 hf => ?_) (fun y4 hf => ?_)
  · refine j_sub [1, 0] rfl ?_
    exact w_L_isLeft_16 C hr hk a z1 hf
  · refine j_iload_n C 0 rfl dL_isLeft_10 ?_
    refine j_bipush (v := 99) C (by decide) dL_isLeft_11 ?_
    refine j_icmp_le C 49 dL_isLeft_13 (by decide) hf (fun y5 hf => ?_) (fun y5 hf => ?_)
    · refine j_iload_n C 0 rfl dL_isLeft_49 ?_
      refine j_iconst (v := 1) C (by decide) dL_isLeft_50 ?_
      refine j_icmp_eq C 79 dL_isLeft_51 (by decide) hf (fun y6 hf => ?_) (fun y6 hf => ?_)
      · refine j_sub [1] rfl ?_
        exact w_L_isLeft_79 C hr hk a hf
      · refine j_aload_n C 1 rfl dL_isLeft_54 ?_
        refine j_iload_n C 0 rfl dL_isLeft_55 ?_
        refine j_iconst (v := 1) C (by decide) dL_isLeft_56 ?_
        refine j_isub C dL_isLeft_57 ?_
        obtain ⟨z7, h8, hf⟩ := bnd_some hf
        obtain ⟨y9, hf⟩ := gd_some hf
        have y9 := of_decide_eq_true y9
        refine j_callV (q := 0) (As := [.int (z1 - 1)]) (rest := []) C (k_X8_tick h8 y9) cw_X8_tick ml_L_116 m_0 ce_0 rfl rfl ⟨Nat.le_of_ble_eq_true rfl, Nat.le_of_ble_eq_true rfl⟩ ⟨Nat.le_of_ble_eq_true rfl, Nat.le_of_ble_eq_true rfl⟩ rfl (Nat.le_of_ble_eq_true rfl) dL_isLeft_58 ?_
        refine j_if_lt C 83 dL_isLeft_61 (by decide) hf (fun y12 hf => ?_) (fun y12 hf => ?_)
        · refine j_sub [1] rfl ?_
          exact w_L_isLeft_83 C hr hk z7.2.2 hf
        · refine j_aload_n C 1 rfl dL_isLeft_64 ?_
          obtain ⟨z13, h14, hf⟩ := bnd_some hf
          refine j_callV (q := 0) (As := []) (rest := []) C (k_X8_isHome h14) cw_X8_isHome ml_L_71 m_0 ce_0 rfl rfl ⟨Nat.le_of_ble_eq_true rfl, Nat.le_of_ble_eq_true rfl⟩ ⟨Nat.le_of_ble_eq_true rfl, Nat.le_of_ble_eq_true rfl⟩ rfl (Nat.le_of_ble_eq_true rfl) dL_isLeft_65 ?_
          refine j_if_ne C 83 dL_isLeft_68 (by decide) hf (fun y16 hf => ?_) (fun y16 hf => ?_)
          · refine j_sub [1] rfl ?_
            exact w_L_isLeft_83 C hr hk z7.2.2 hf
          · refine j_aload_n C 1 rfl dL_isLeft_71 ?_
            obtain ⟨z17, h18, hf⟩ := bnd_some hf
            refine j_callV (q := 0) (As := []) (rest := []) C (k_X8_ticksToHome h18) cw_X8_ticksToHome ml_L_81 m_0 ce_0 rfl rfl ⟨Nat.le_of_ble_eq_true rfl, Nat.le_of_ble_eq_true rfl⟩ ⟨Nat.le_of_ble_eq_true rfl, Nat.le_of_ble_eq_true rfl⟩ rfl (Nat.le_of_ble_eq_true rfl) dL_isLeft_72 ?_
            refine j_iconst (v := 1) C (by decide) dL_isLeft_75 ?_
            refine j_icmp_ne C 83 dL_isLeft_76 (by decide) hf (fun y20 hf => ?_) (fun y20 hf => ?_)
            · refine j_sub [1] rfl ?_
              exact w_L_isLeft_83 C hr hk z7.2.2 hf
            · refine j_sub [1] rfl ?_
              exact w_L_isLeft_79 C hr hk z7.2.2 hf
    · refine j_sub [1, 0] rfl ?_
      exact w_L_isLeft_16 C hr hk a z1 hf
