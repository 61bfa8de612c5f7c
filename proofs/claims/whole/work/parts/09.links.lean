/-! words of the tables, links, constants: by program (wip/whole/gen.py) -/
theorem dec_or {c P P2 : Prop} [Decidable c] (h : (c → P) ∧ (¬ c → P2)) : (c ∧ P) ∨ (¬ c ∧ P2) := by
  by_cases e : c
  · exact Or.inl ⟨e, h.1 e⟩
  · exact Or.inr ⟨e, h.2 e⟩
theorem tk_0 {w : Cond} (h : w ∈ k2_sels lw_privs) (hg : goodWord w = true) : w ∈ TB := List.mem_filter.mpr ⟨List.mem_append_left _ h, hg⟩
theorem tk_1 {w : Cond} (h : w ∈ tables_1_1) (hg : goodWord w = true) : w ∈ TB := List.mem_filter.mpr ⟨List.mem_append_right _ (List.mem_append_left _ h), hg⟩
theorem tk_2 {w : Cond} (h : w ∈ tables_1_2) (hg : goodWord w = true) : w ∈ TB := List.mem_filter.mpr ⟨List.mem_append_right _ (List.mem_append_right _ (List.mem_append_left _ h)), hg⟩
theorem tk_3 {w : Cond} (h : w ∈ tables_1_3) (hg : goodWord w = true) : w ∈ TB := List.mem_filter.mpr ⟨List.mem_append_right _ (List.mem_append_right _ (List.mem_append_right _ (List.mem_append_left _ h))), hg⟩
theorem tk_4 {w : Cond} (h : w ∈ tables_1_4) (hg : goodWord w = true) : w ∈ TB := List.mem_filter.mpr ⟨List.mem_append_right _ (List.mem_append_right _ (List.mem_append_right _ (List.mem_append_right _ (List.mem_append_left _ h)))), hg⟩
theorem tk_5 {w : Cond} (h : w ∈ tables_1_5) (hg : goodWord w = true) : w ∈ TB := List.mem_filter.mpr ⟨List.mem_append_right _ (List.mem_append_right _ (List.mem_append_right _ (List.mem_append_right _ (List.mem_append_right _ (List.mem_append_left _ h))))), hg⟩
theorem tk_6 {w : Cond} (h : w ∈ tables_1_6) (hg : goodWord w = true) : w ∈ TB := List.mem_filter.mpr ⟨List.mem_append_right _ (List.mem_append_right _ (List.mem_append_right _ (List.mem_append_right _ (List.mem_append_right _ (List.mem_append_right _ (List.mem_append_left _ h)))))), hg⟩
theorem tk_7 {w : Cond} (h : w ∈ tables_1_7) (hg : goodWord w = true) : w ∈ TB := List.mem_filter.mpr ⟨List.mem_append_right _ (List.mem_append_right _ (List.mem_append_right _ (List.mem_append_right _ (List.mem_append_right _ (List.mem_append_right _ (List.mem_append_right _ (List.mem_append_left _ h))))))), hg⟩
theorem tk_8 {w : Cond} (h : w ∈ tables_1_8) (hg : goodWord w = true) : w ∈ TB := List.mem_filter.mpr ⟨List.mem_append_right _ (List.mem_append_right _ (List.mem_append_right _ (List.mem_append_right _ (List.mem_append_right _ (List.mem_append_right _ (List.mem_append_right _ (List.mem_append_right _ h))))))), hg⟩
theorem w_0 : Cond.selects RX9 yX9_aheadOf yX9_aheadOf ∈ TB := tk_0 (List.mem_of_getElem? (i := 0) rfl) rfl
theorem w_1 : Cond.selects RX8 yX8_cutOne yX8_cutOne ∈ TB := tk_0 (List.mem_of_getElem? (i := 1) rfl) rfl
theorem w_2 : Cond.selects RX8 yX8_add yX8_add ∈ TB := tk_0 (List.mem_of_getElem? (i := 2) rfl) rfl
theorem w_3 : Cond.selects RX5 yX5_next yX5_next ∈ TB := tk_0 (List.mem_of_getElem? (i := 3) rfl) rfl
theorem w_4 : Cond.selects RX5 yX5_clause yX5_clause ∈ TB := tk_0 (List.mem_of_getElem? (i := 4) rfl) rfl
theorem w_5 : Cond.selects RX5 yX5_refuse yX5_refuse ∈ TB := tk_0 (List.mem_of_getElem? (i := 5) rfl) rfl
theorem w_6 : Cond.selects RX5 yX5_sum yX5_sum ∈ TB := tk_0 (List.mem_of_getElem? (i := 6) rfl) rfl
theorem w_7 : Cond.selects RX5 yX5_product yX5_product ∈ TB := tk_0 (List.mem_of_getElem? (i := 7) rfl) rfl
theorem w_8 : Cond.selects RX5 yX5_one yX5_one ∈ TB := tk_0 (List.mem_of_getElem? (i := 8) rfl) rfl
theorem w_9 : Cond.selects RX5 yX5_opens yX5_opens ∈ TB := tk_0 (List.mem_of_getElem? (i := 9) rfl) rfl
theorem w_10 : Cond.selects RX5 yX5_accept yX5_accept ∈ TB := tk_0 (List.mem_of_getElem? (i := 10) rfl) rfl
theorem w_11 : Cond.selects RX5 yX5_put yX5_put ∈ TB := tk_0 (List.mem_of_getElem? (i := 11) rfl) rfl
theorem w_12 : Cond.selects RX5 yX5_choice yX5_choice ∈ TB := tk_0 (List.mem_of_getElem? (i := 12) rfl) rfl
theorem w_13 : Cond.selects RX5 yX5_either yX5_either ∈ TB := tk_0 (List.mem_of_getElem? (i := 13) rfl) rfl
theorem w_14 : Cond.selects RX5 yX5_both yX5_both ∈ TB := tk_0 (List.mem_of_getElem? (i := 14) rfl) rfl
theorem w_15 : Cond.selects RX5 yX5_ask yX5_ask ∈ TB := tk_0 (List.mem_of_getElem? (i := 15) rfl) rfl
theorem w_16 : Cond.selects RX5 yX5_name yX5_name ∈ TB := tk_0 (List.mem_of_getElem? (i := 16) rfl) rfl
theorem w_17 : Cond.selects RX5 yX5_plain yX5_plain ∈ TB := tk_0 (List.mem_of_getElem? (i := 17) rfl) rfl
theorem w_18 : Cond.selects RX5 yX5_told yX5_told ∈ TB := tk_0 (List.mem_of_getElem? (i := 18) rfl) rfl
theorem w_19 : Cond.selects RX1 yX1_passOne yX1_passOne ∈ TB := tk_0 (List.mem_of_getElem? (i := 19) rfl) rfl
theorem w_20 : Cond.selects RX4 yX4_worked yX4_worked ∈ TB := tk_0 (List.mem_of_getElem? (i := 20) rfl) rfl
theorem w_21 : Cond.selects RX4 yX4_named yX4_named ∈ TB := tk_0 (List.mem_of_getElem? (i := 21) rfl) rfl
theorem w_22 : Cond.selects RX4 yX4_turned yX4_turned ∈ TB := tk_0 (List.mem_of_getElem? (i := 22) rfl) rfl
theorem w_23 : Cond.selects RX3 yX3_write yX3_write ∈ TB := tk_0 (List.mem_of_getElem? (i := 23) rfl) rfl
theorem w_24 : Cond.selects RX1 yX1_drawOne yX1_drawOne ∈ TB := tk_0 (List.mem_of_getElem? (i := 24) rfl) rfl
theorem w_25 : Cond.selects RX10 yX10_runningNow yX10_runningNow ∈ TB := tk_0 (List.mem_of_getElem? (i := 25) rfl) rfl
theorem w_26 : Cond.selects RX10 yX10_takesNow yX10_takesNow ∈ TB := tk_0 (List.mem_of_getElem? (i := 26) rfl) rfl
theorem w_27 : Cond.selects RX2 yX2_walkFrom yX2_walkFrom ∈ TB := tk_0 (List.mem_of_getElem? (i := 27) rfl) rfl
theorem w_28 : Cond.selects RX2 yX2_clearMarks yX2_clearMarks ∈ TB := tk_0 (List.mem_of_getElem? (i := 28) rfl) rfl
theorem w_29 : Cond.selects RX10 yX10_isSettledByEachWeather yX10_isSettledByEachWeather ∈ TB := tk_0 (List.mem_of_getElem? (i := 29) rfl) rfl
theorem w_30 : Cond.selects RX10 yX10_wouldBeInTimeWalking yX10_wouldBeInTimeWalking ∈ TB := tk_0 (List.mem_of_getElem? (i := 30) rfl) rfl
theorem w_31 : Cond.selects RX0 yX0_fitsHeard yX0_fitsHeard ∈ TB := tk_0 (List.mem_of_getElem? (i := 31) rfl) rfl
theorem w_32 : Cond.selects RX0 yX0_fewestFor yX0_fewestFor ∈ TB := tk_0 (List.mem_of_getElem? (i := 32) rfl) rfl
theorem w_33 : Cond.selects RX0 yX0_afterAsking yX0_afterAsking ∈ TB := tk_0 (List.mem_of_getElem? (i := 33) rfl) rfl
theorem w_34 : Cond.selects RX10 yX10_nobodyIsLateWith yX10_nobodyIsLateWith ∈ TB := tk_0 (List.mem_of_getElem? (i := 34) rfl) rfl
theorem w_35 : Cond.selects RX10 yX10_allSaidIsSoBy yX10_allSaidIsSoBy ∈ TB := tk_0 (List.mem_of_getElem? (i := 35) rfl) rfl
theorem w_36 : Cond.selects RX11 yX11_put yX11_put ∈ TB := tk_0 (List.mem_of_getElem? (i := 36) rfl) rfl
theorem w_37 : Cond.selects RX11 yX11_begin yX11_begin ∈ TB := tk_0 (List.mem_of_getElem? (i := 37) rfl) rfl
theorem w_38 : Cond.selects RX11 yX11_get yX11_get ∈ TB := tk_0 (List.mem_of_getElem? (i := 38) rfl) rfl
theorem w_39 : Cond.selects RX11 yX11_four yX11_four ∈ TB := tk_0 (List.mem_of_getElem? (i := 39) rfl) rfl
theorem w_40 : Cond.selects RX11 yX11_readText yX11_readText ∈ TB := tk_0 (List.mem_of_getElem? (i := 40) rfl) rfl
theorem w_41 : Cond.selects RX11 yX11_nextToken yX11_nextToken ∈ TB := tk_0 (List.mem_of_getElem? (i := 41) rfl) rfl
theorem w_42 : Cond.selects RX11 yX11_byteAt yX11_byteAt ∈ TB := tk_0 (List.mem_of_getElem? (i := 42) rfl) rfl
theorem w_43 : Cond.selects RX11 yX11_clause yX11_clause ∈ TB := tk_0 (List.mem_of_getElem? (i := 43) rfl) rfl
theorem w_44 : Cond.selects RX11 yX11_sortOf yX11_sortOf ∈ TB := tk_0 (List.mem_of_getElem? (i := 44) rfl) rfl
theorem w_45 : Cond.selects RX11 yX11_isWord yX11_isWord ∈ TB := tk_0 (List.mem_of_getElem? (i := 45) rfl) rfl
theorem w_46 : Cond.selects RX11 yX11_body yX11_body ∈ TB := tk_0 (List.mem_of_getElem? (i := 46) rfl) rfl
theorem w_47 : Cond.selects RX11 yX11_personClause yX11_personClause ∈ TB := tk_0 (List.mem_of_getElem? (i := 47) rfl) rfl
theorem w_48 : Cond.selects RX11 yX11_figure yX11_figure ∈ TB := tk_0 (List.mem_of_getElem? (i := 48) rfl) rfl
theorem w_49 : Cond.selects RX11 yX11_worded yX11_worded ∈ TB := tk_0 (List.mem_of_getElem? (i := 49) rfl) rfl
theorem w_50 : Cond.selects RX11 yX11_dueClause yX11_dueClause ∈ TB := tk_0 (List.mem_of_getElem? (i := 50) rfl) rfl
theorem w_51 : Cond.selects RX11 yX11_lawClause yX11_lawClause ∈ TB := tk_0 (List.mem_of_getElem? (i := 51) rfl) rfl
theorem w_52 : Cond.selects RX11 yX11_summed yX11_summed ∈ TB := tk_0 (List.mem_of_getElem? (i := 52) rfl) rfl
theorem w_53 : Cond.selects RX11 yX11_behindOne yX11_behindOne ∈ TB := tk_0 (List.mem_of_getElem? (i := 53) rfl) rfl
theorem w_54 : Cond.selects RX11 yX11_betweenOf yX11_betweenOf ∈ TB := tk_0 (List.mem_of_getElem? (i := 54) rfl) rfl
theorem w_55 : Cond.selects RX11 yX11_openNow yX11_openNow ∈ TB := tk_0 (List.mem_of_getElem? (i := 55) rfl) rfl
theorem w_56 : Cond.selects RX11 yX11_openAt yX11_openAt ∈ TB := tk_0 (List.mem_of_getElem? (i := 56) rfl) rfl
theorem w_57 : Cond.selects RX11 yX11_isCompared yX11_isCompared ∈ TB := tk_0 (List.mem_of_getElem? (i := 57) rfl) rfl
theorem w_58 : Cond.selects RX11 yX11_compareOf yX11_compareOf ∈ TB := tk_0 (List.mem_of_getElem? (i := 58) rfl) rfl
theorem w_59 : Cond.selects RX11 yX11_settle yX11_settle ∈ TB := tk_0 (List.mem_of_getElem? (i := 59) rfl) rfl
theorem w_60 : Cond.selects RX11 yX11_emit yX11_emit ∈ TB := tk_0 (List.mem_of_getElem? (i := 60) rfl) rfl
theorem w_61 : Cond.selects RX11 yX11_partOf yX11_partOf ∈ TB := tk_0 (List.mem_of_getElem? (i := 61) rfl) rfl
theorem w_62 : Cond.selects RX11 yX11_beginOne yX11_beginOne ∈ TB := tk_0 (List.mem_of_getElem? (i := 62) rfl) rfl
theorem w_63 : Cond.selects RX11 yX11_nameOf yX11_nameOf ∈ TB := tk_0 (List.mem_of_getElem? (i := 63) rfl) rfl
theorem w_64 : Cond.selects RX11 yX11_isWeather yX11_isWeather ∈ TB := tk_0 (List.mem_of_getElem? (i := 64) rfl) rfl
theorem w_65 : Cond.selects RX11 yX11_isOf yX11_isOf ∈ TB := tk_0 (List.mem_of_getElem? (i := 65) rfl) rfl
theorem w_66 : Cond.selects RX11 yX11_opened yX11_opened ∈ TB := tk_0 (List.mem_of_getElem? (i := 66) rfl) rfl
theorem w_67 : Cond.selects RX11 yX11_isAskAhead yX11_isAskAhead ∈ TB := tk_0 (List.mem_of_getElem? (i := 67) rfl) rfl
theorem w_68 : Cond.selects RX11 yX11_areRings yX11_areRings ∈ TB := tk_0 (List.mem_of_getElem? (i := 68) rfl) rfl
theorem w_69 : Cond.selects RX11 yX11_all yX11_all ∈ TB := tk_0 (List.mem_of_getElem? (i := 69) rfl) rfl
theorem w_70 : Cond.selects RX11 yX11_keep yX11_keep ∈ TB := tk_0 (List.mem_of_getElem? (i := 70) rfl) rfl
theorem w_71 : Cond.selects RX11 yX11_isPerson yX11_isPerson ∈ TB := tk_0 (List.mem_of_getElem? (i := 71) rfl) rfl
theorem w_72 : Cond.selects RX11 yX11_isLain yX11_isLain ∈ TB := tk_0 (List.mem_of_getElem? (i := 72) rfl) rfl
theorem w_73 : Cond.selects RX11 yX11_arePassed yX11_arePassed ∈ TB := tk_0 (List.mem_of_getElem? (i := 73) rfl) rfl
theorem w_74 : Cond.selects RX11 yX11_pass yX11_pass ∈ TB := tk_0 (List.mem_of_getElem? (i := 74) rfl) rfl
theorem w_75 : Cond.selects RX11 yX11_anew yX11_anew ∈ TB := tk_0 (List.mem_of_getElem? (i := 75) rfl) rfl
theorem w_76 : Cond.selects RX11 yX11_lateBy yX11_lateBy ∈ TB := tk_0 (List.mem_of_getElem? (i := 76) rfl) rfl
theorem w_77 : Cond.selects RX11 yX11_runnersBy yX11_runnersBy ∈ TB := tk_0 (List.mem_of_getElem? (i := 77) rfl) rfl
theorem w_78 : Cond.selects RX11 yX11_isUp yX11_isUp ∈ TB := tk_0 (List.mem_of_getElem? (i := 78) rfl) rfl
theorem w_79 : Cond.selects RX11 yX11_name yX11_name ∈ TB := tk_0 (List.mem_of_getElem? (i := 79) rfl) rfl
theorem w_80 : Cond.selects RX11 yX11_says yX11_says ∈ TB := tk_0 (List.mem_of_getElem? (i := 80) rfl) rfl
theorem w_81 : Cond.selects RX11 yX11_summedUp yX11_summedUp ∈ TB := tk_0 (List.mem_of_getElem? (i := 81) rfl) rfl
theorem w_82 : Cond.selects RX11 yX11_ringsFor yX11_ringsFor ∈ TB := tk_0 (List.mem_of_getElem? (i := 82) rfl) rfl
theorem w_83 : Cond.selects RX11 yX11_takesOf yX11_takesOf ∈ TB := tk_0 (List.mem_of_getElem? (i := 83) rfl) rfl
theorem w_84 : Cond.selects RX11 yX11_write yX11_write ∈ TB := tk_0 (List.mem_of_getElem? (i := 84) rfl) rfl
theorem w_85 : Cond.selects RX11 yX11_isPlayed yX11_isPlayed ∈ TB := tk_0 (List.mem_of_getElem? (i := 85) rfl) rfl
theorem w_86 : Cond.selects RX11 yX11_happens yX11_happens ∈ TB := tk_0 (List.mem_of_getElem? (i := 86) rfl) rfl
theorem w_87 : Cond.selects RX11 yX11_runningNow yX11_runningNow ∈ TB := tk_0 (List.mem_of_getElem? (i := 87) rfl) rfl
theorem w_88 : Cond.selects RX11 yX11_takesNow yX11_takesNow ∈ TB := tk_0 (List.mem_of_getElem? (i := 88) rfl) rfl
theorem w_89 : Cond.selects RX11 yX11_layLeads yX11_layLeads ∈ TB := tk_0 (List.mem_of_getElem? (i := 89) rfl) rfl
theorem w_90 : Cond.selects RX11 yX11_goneFrom yX11_goneFrom ∈ TB := tk_0 (List.mem_of_getElem? (i := 90) rfl) rfl
theorem w_91 : Cond.selects RX11 yX11_isRound yX11_isRound ∈ TB := tk_0 (List.mem_of_getElem? (i := 91) rfl) rfl
theorem w_92 : Cond.selects RX11 yX11_timesTo yX11_timesTo ∈ TB := tk_0 (List.mem_of_getElem? (i := 92) rfl) rfl
theorem w_93 : Cond.selects RX11 yX11_isNeedless yX11_isNeedless ∈ TB := tk_0 (List.mem_of_getElem? (i := 93) rfl) rfl
theorem w_94 : Cond.selects RX11 yX11_layDays yX11_layDays ∈ TB := tk_0 (List.mem_of_getElem? (i := 94) rfl) rfl
theorem w_95 : Cond.selects RX11 yX11_asksBy yX11_asksBy ∈ TB := tk_0 (List.mem_of_getElem? (i := 95) rfl) rfl
theorem w_96 : Cond.selects RX11 yX11_leastAsleep yX11_leastAsleep ∈ TB := tk_0 (List.mem_of_getElem? (i := 96) rfl) rfl
theorem w_97 : Cond.selects RX11 yX11_inBed yX11_inBed ∈ TB := tk_0 (List.mem_of_getElem? (i := 97) rfl) rfl
theorem w_98 : Cond.selects RX11 yX11_layBeds yX11_layBeds ∈ TB := tk_0 (List.mem_of_getElem? (i := 98) rfl) rfl
theorem w_100 : Cond.initialized RX10 ∈ TB := tk_1 (List.mem_of_getElem? (i := 1) rfl) rfl
theorem w_101 : Cond.initialized RX9 ∈ TB := tk_1 (List.mem_of_getElem? (i := 2) rfl) rfl
theorem w_102 : Cond.initialized RX3 ∈ TB := tk_1 (List.mem_of_getElem? (i := 3) rfl) rfl
theorem w_103 : Cond.initialized RX6 ∈ TB := tk_1 (List.mem_of_getElem? (i := 4) rfl) rfl
theorem w_104 : Cond.initialized RX7 ∈ TB := tk_1 (List.mem_of_getElem? (i := 5) rfl) rfl
theorem w_105 : Cond.initialized RX5 ∈ TB := tk_1 (List.mem_of_getElem? (i := 6) rfl) rfl
theorem w_106 : Cond.initialized RX8 ∈ TB := tk_1 (List.mem_of_getElem? (i := 7) rfl) rfl
theorem w_107 : Cond.initialized RX4 ∈ TB := tk_1 (List.mem_of_getElem? (i := 8) rfl) rfl
theorem w_108 : Cond.initialized RX1 ∈ TB := tk_1 (List.mem_of_getElem? (i := 9) rfl) rfl
theorem w_109 : Cond.initialized RX2 ∈ TB := tk_1 (List.mem_of_getElem? (i := 10) rfl) rfl
theorem w_110 : Cond.initialized RX0 ∈ TB := tk_1 (List.mem_of_getElem? (i := 11) rfl) rfl
theorem w_111 : Cond.initialized RX11 ∈ TB := tk_1 (List.mem_of_getElem? (i := 12) rfl) rfl
theorem w_112 : Cond.initialized RJ0 ∈ TB := tk_1 (List.mem_of_getElem? (i := 13) rfl) rfl
theorem w_113 : Cond.initialized RJ1 ∈ TB := tk_1 (List.mem_of_getElem? (i := 14) rfl) rfl
theorem w_114 : Cond.initialized RJ3 ∈ TB := tk_1 (List.mem_of_getElem? (i := 15) rfl) rfl
theorem w_116 : Cond.initialized "java/lang/Math" ∈ TB := tk_1 (List.mem_of_getElem? (i := 17) rfl) rfl
theorem w_118 : Cond.initialized "java/lang/System" ∈ TB := tk_1 (List.mem_of_getElem? (i := 19) rfl) rfl
theorem w_119 : Cond.initialized RJ6 ∈ TB := tk_1 (List.mem_of_getElem? (i := 20) rfl) rfl
theorem w_125 : Cond.methodLink RX10 3 objectInit ∈ TB := tk_1 (List.mem_of_getElem? (i := 26) rfl) rfl
theorem w_126 : Cond.instanceMethod objectInit ∈ TB := tk_1 (List.mem_of_getElem? (i := 27) rfl) rfl
theorem w_127 : Cond.code objectInit ⟨#[0xb1]⟩ 1 none ∈ TB := tk_1 (List.mem_of_getElem? (i := 28) rfl) rfl
theorem w_128 : Cond.classLink RX10 9 RX9 ∈ TB := tk_1 (List.mem_of_getElem? (i := 29) rfl) rfl
theorem w_129 : Cond.instantiable RX9 18 ∈ TB := tk_1 (List.mem_of_getElem? (i := 30) rfl) rfl
theorem w_130 : Cond.methodLink RX10 11 yX9_init ∈ TB := tk_1 (List.mem_of_getElem? (i := 31) rfl) rfl
theorem w_131 : Cond.instanceMethod yX9_init ∈ TB := tk_1 (List.mem_of_getElem? (i := 32) rfl) rfl
theorem w_132 : Cond.code yX9_init cX9_init 2 none ∈ TB := tk_1 (List.mem_of_getElem? (i := 33) rfl) rfl
theorem w_133 : Cond.methodLink RX9 3 objectInit ∈ TB := tk_1 (List.mem_of_getElem? (i := 34) rfl) rfl
theorem w_134 : Cond.classLink RX9 43 RX3 ∈ TB := tk_1 (List.mem_of_getElem? (i := 35) rfl) rfl
theorem w_135 : Cond.instantiable RX3 9 ∈ TB := tk_1 (List.mem_of_getElem? (i := 36) rfl) rfl
theorem w_137 : Cond.instanceMethod yX3_init ∈ TB := tk_1 (List.mem_of_getElem? (i := 38) rfl) rfl
theorem w_138 : Cond.code yX3_init cX3_init 1 none ∈ TB := tk_1 (List.mem_of_getElem? (i := 39) rfl) rfl
theorem w_139 : Cond.methodLink RX3 3 objectInit ∈ TB := tk_1 (List.mem_of_getElem? (i := 40) rfl) rfl
theorem w_140 : Cond.fieldLink RX3 26 RX3 "rings" "I" ∈ TB := tk_1 (List.mem_of_getElem? (i := 41) rfl) rfl
theorem w_141 : Cond.fieldLink RX1 38 RX3 "rings" "I" ∈ TB := tk_1 (List.mem_of_getElem? (i := 42) rfl) rfl
theorem w_142 : Cond.fieldLink RX10 202 RX3 "rings" "I" ∈ TB := tk_1 (List.mem_of_getElem? (i := 43) rfl) rfl
theorem w_143 : Cond.fieldLink RX3 29 RX3 "bed" "I" ∈ TB := tk_1 (List.mem_of_getElem? (i := 44) rfl) rfl
theorem w_144 : Cond.fieldLink RX1 49 RX3 "bed" "I" ∈ TB := tk_1 (List.mem_of_getElem? (i := 45) rfl) rfl
theorem w_145 : Cond.fieldLink RX4 44 RX3 "bed" "I" ∈ TB := tk_1 (List.mem_of_getElem? (i := 46) rfl) rfl
theorem w_146 : Cond.fieldLink RX10 190 RX3 "bed" "I" ∈ TB := tk_1 (List.mem_of_getElem? (i := 47) rfl) rfl
theorem w_147 : Cond.fieldLink RX3 32 RX3 "weather" "I" ∈ TB := tk_1 (List.mem_of_getElem? (i := 48) rfl) rfl
theorem w_148 : Cond.fieldLink RX4 40 RX3 "weather" "I" ∈ TB := tk_1 (List.mem_of_getElem? (i := 49) rfl) rfl
theorem w_149 : Cond.fieldLink RX1 62 RX3 "weather" "I" ∈ TB := tk_1 (List.mem_of_getElem? (i := 50) rfl) rfl
theorem w_150 : Cond.fieldLink RX10 205 RX3 "weather" "I" ∈ TB := tk_1 (List.mem_of_getElem? (i := 51) rfl) rfl
theorem w_151 : Cond.fieldLink RX3 35 RX3 "day" "I" ∈ TB := tk_1 (List.mem_of_getElem? (i := 52) rfl) rfl
theorem w_152 : Cond.fieldLink RX4 33 RX3 "day" "I" ∈ TB := tk_1 (List.mem_of_getElem? (i := 53) rfl) rfl
theorem w_153 : Cond.fieldLink RX1 52 RX3 "day" "I" ∈ TB := tk_1 (List.mem_of_getElem? (i := 54) rfl) rfl
theorem w_154 : Cond.fieldLink RX10 164 RX3 "day" "I" ∈ TB := tk_1 (List.mem_of_getElem? (i := 55) rfl) rfl
theorem w_155 : Cond.fieldLink RX3 9 RX3 "x" "I" ∈ TB := tk_1 (List.mem_of_getElem? (i := 56) rfl) rfl
theorem w_156 : Cond.fieldLink RX1 59 RX3 "x" "I" ∈ TB := tk_1 (List.mem_of_getElem? (i := 57) rfl) rfl
theorem w_157 : Cond.fieldLink RX10 208 RX3 "x" "I" ∈ TB := tk_1 (List.mem_of_getElem? (i := 58) rfl) rfl
theorem w_158 : Cond.fieldLink RX3 15 RX3 "dues" "[I" ∈ TB := tk_1 (List.mem_of_getElem? (i := 59) rfl) rfl
theorem w_159 : Cond.fieldLink RX1 45 RX3 "dues" "[I" ∈ TB := tk_1 (List.mem_of_getElem? (i := 60) rfl) rfl
theorem w_160 : Cond.fieldLink RX9 61 RX3 "dues" "[I" ∈ TB := tk_1 (List.mem_of_getElem? (i := 61) rfl) rfl
theorem w_161 : Cond.fieldLink RX4 107 RX3 "dues" "[I" ∈ TB := tk_1 (List.mem_of_getElem? (i := 62) rfl) rfl
theorem w_162 : Cond.fieldLink RX10 187 RX3 "dues" "[I" ∈ TB := tk_1 (List.mem_of_getElem? (i := 63) rfl) rfl
theorem w_163 : Cond.fieldLink RX3 19 RX3 "lates" "[I" ∈ TB := tk_1 (List.mem_of_getElem? (i := 64) rfl) rfl
theorem w_164 : Cond.fieldLink RX10 193 RX3 "lates" "[I" ∈ TB := tk_1 (List.mem_of_getElem? (i := 65) rfl) rfl
theorem w_165 : Cond.fieldLink RX3 22 RX3 "book" "[J" ∈ TB := tk_1 (List.mem_of_getElem? (i := 66) rfl) rfl
theorem w_166 : Cond.fieldLink RX3 38 RX3 "pages" "I" ∈ TB := tk_1 (List.mem_of_getElem? (i := 67) rfl) rfl
theorem w_167 : Cond.fieldLink RX10 211 RX3 "pages" "I" ∈ TB := tk_1 (List.mem_of_getElem? (i := 68) rfl) rfl
theorem w_187 : Cond.arrayClass .int ∈ TB := tk_1 (List.mem_of_getElem? (i := 88) rfl) rfl
theorem w_188 : Cond.arrayClass .long ∈ TB := tk_1 (List.mem_of_getElem? (i := 89) rfl) rfl
theorem w_190 : Cond.fieldLink RX9 54 RX9 "count" "I" ∈ TB := tk_1 (List.mem_of_getElem? (i := 91) rfl) rfl
theorem w_191 : Cond.fieldLink RX0 67 RX9 "count" "I" ∈ TB := tk_1 (List.mem_of_getElem? (i := 92) rfl) rfl
theorem w_192 : Cond.fieldLink RX4 67 RX9 "count" "I" ∈ TB := tk_1 (List.mem_of_getElem? (i := 93) rfl) rfl
theorem w_193 : Cond.fieldLink RX1 124 RX9 "count" "I" ∈ TB := tk_1 (List.mem_of_getElem? (i := 94) rfl) rfl
theorem w_194 : Cond.fieldLink RX10 283 RX9 "count" "I" ∈ TB := tk_1 (List.mem_of_getElem? (i := 95) rfl) rfl
theorem w_195 : Cond.fieldLink RX9 9 RX9 "roads" "[I" ∈ TB := tk_1 (List.mem_of_getElem? (i := 96) rfl) rfl
theorem w_196 : Cond.fieldLink RX4 113 RX9 "roads" "[I" ∈ TB := tk_1 (List.mem_of_getElem? (i := 97) rfl) rfl
theorem w_197 : Cond.fieldLink RX10 178 RX9 "roads" "[I" ∈ TB := tk_1 (List.mem_of_getElem? (i := 98) rfl) rfl
theorem w_198 : Cond.fieldLink RX9 15 RX9 "onRoad" "[I" ∈ TB := tk_1 (List.mem_of_getElem? (i := 99) rfl) rfl
theorem w_199 : Cond.fieldLink RX4 110 RX9 "onRoad" "[I" ∈ TB := tk_1 (List.mem_of_getElem? (i := 100) rfl) rfl
theorem w_200 : Cond.fieldLink RX10 371 RX9 "onRoad" "[I" ∈ TB := tk_1 (List.mem_of_getElem? (i := 101) rfl) rfl
theorem w_201 : Cond.fieldLink RX9 18 RX9 "walks" "[I" ∈ TB := tk_1 (List.mem_of_getElem? (i := 102) rfl) rfl
theorem w_202 : Cond.fieldLink RX4 122 RX9 "walks" "[I" ∈ TB := tk_1 (List.mem_of_getElem? (i := 103) rfl) rfl
theorem w_203 : Cond.fieldLink RX10 181 RX9 "walks" "[I" ∈ TB := tk_1 (List.mem_of_getElem? (i := 104) rfl) rfl
theorem w_204 : Cond.fieldLink RX9 21 RX9 "runs" "[I" ∈ TB := tk_1 (List.mem_of_getElem? (i := 105) rfl) rfl
theorem w_205 : Cond.fieldLink RX4 119 RX9 "runs" "[I" ∈ TB := tk_1 (List.mem_of_getElem? (i := 106) rfl) rfl
theorem w_206 : Cond.fieldLink RX10 184 RX9 "runs" "[I" ∈ TB := tk_1 (List.mem_of_getElem? (i := 107) rfl) rfl
theorem w_207 : Cond.fieldLink RX9 24 RX9 "hears" "[I" ∈ TB := tk_1 (List.mem_of_getElem? (i := 108) rfl) rfl
theorem w_208 : Cond.fieldLink RX10 81 RX9 "hears" "[I" ∈ TB := tk_1 (List.mem_of_getElem? (i := 109) rfl) rfl
theorem w_209 : Cond.fieldLink RX4 73 RX9 "hears" "[I" ∈ TB := tk_1 (List.mem_of_getElem? (i := 110) rfl) rfl
theorem w_210 : Cond.fieldLink RX10 97 RX9 "texts" "I" ∈ TB := tk_1 (List.mem_of_getElem? (i := 111) rfl) rfl
theorem w_211 : Cond.fieldLink RX9 78 RX9 "texts" "I" ∈ TB := tk_1 (List.mem_of_getElem? (i := 112) rfl) rfl
theorem w_212 : Cond.fieldLink RX9 27 RX9 "ruling" "I" ∈ TB := tk_1 (List.mem_of_getElem? (i := 113) rfl) rfl
theorem w_213 : Cond.fieldLink RX4 48 RX9 "ruling" "I" ∈ TB := tk_1 (List.mem_of_getElem? (i := 114) rfl) rfl
theorem w_214 : Cond.fieldLink RX10 120 RX9 "ruling" "I" ∈ TB := tk_1 (List.mem_of_getElem? (i := 115) rfl) rfl
theorem w_215 : Cond.fieldLink RX0 49 RX9 "heard" "I" ∈ TB := tk_1 (List.mem_of_getElem? (i := 116) rfl) rfl
theorem w_216 : Cond.fieldLink RX9 81 RX9 "heard" "I" ∈ TB := tk_1 (List.mem_of_getElem? (i := 117) rfl) rfl
theorem w_217 : Cond.fieldLink RX10 312 RX9 "heard" "I" ∈ TB := tk_1 (List.mem_of_getElem? (i := 118) rfl) rfl
theorem w_218 : Cond.fieldLink RX9 31 RX9 "heardWho" "[I" ∈ TB := tk_1 (List.mem_of_getElem? (i := 119) rfl) rfl
theorem w_219 : Cond.fieldLink RX0 52 RX9 "heardWho" "[I" ∈ TB := tk_1 (List.mem_of_getElem? (i := 120) rfl) rfl
theorem w_220 : Cond.fieldLink RX10 315 RX9 "heardWho" "[I" ∈ TB := tk_1 (List.mem_of_getElem? (i := 121) rfl) rfl
theorem w_221 : Cond.fieldLink RX9 34 RX9 "heardRung" "[I" ∈ TB := tk_1 (List.mem_of_getElem? (i := 122) rfl) rfl
theorem w_222 : Cond.fieldLink RX0 55 RX9 "heardRung" "[I" ∈ TB := tk_1 (List.mem_of_getElem? (i := 123) rfl) rfl
theorem w_223 : Cond.fieldLink RX10 318 RX9 "heardRung" "[I" ∈ TB := tk_1 (List.mem_of_getElem? (i := 124) rfl) rfl
theorem w_224 : Cond.fieldLink RX9 84 RX9 "said" "I" ∈ TB := tk_1 (List.mem_of_getElem? (i := 125) rfl) rfl
theorem w_225 : Cond.fieldLink RX10 355 RX9 "said" "I" ∈ TB := tk_1 (List.mem_of_getElem? (i := 126) rfl) rfl
theorem w_226 : Cond.fieldLink RX9 37 RX9 "saidWho" "[I" ∈ TB := tk_1 (List.mem_of_getElem? (i := 127) rfl) rfl
theorem w_227 : Cond.fieldLink RX10 358 RX9 "saidWho" "[I" ∈ TB := tk_1 (List.mem_of_getElem? (i := 128) rfl) rfl
theorem w_228 : Cond.fieldLink RX9 40 RX9 "saidTakes" "[I" ∈ TB := tk_1 (List.mem_of_getElem? (i := 129) rfl) rfl
theorem w_229 : Cond.fieldLink RX10 361 RX9 "saidTakes" "[I" ∈ TB := tk_1 (List.mem_of_getElem? (i := 130) rfl) rfl
theorem w_230 : Cond.fieldLink RX9 46 RX9 "now" "LTollsForLate$Moment;" ∈ TB := tk_1 (List.mem_of_getElem? (i := 131) rfl) rfl
theorem w_231 : Cond.fieldLink RX1 35 RX9 "now" "LTollsForLate$Moment;" ∈ TB := tk_1 (List.mem_of_getElem? (i := 132) rfl) rfl
theorem w_232 : Cond.fieldLink RX4 23 RX9 "now" "LTollsForLate$Moment;" ∈ TB := tk_1 (List.mem_of_getElem? (i := 133) rfl) rfl
theorem w_233 : Cond.fieldLink RX10 160 RX9 "now" "LTollsForLate$Moment;" ∈ TB := tk_1 (List.mem_of_getElem? (i := 134) rfl) rfl
theorem w_234 : Cond.fieldLink RX9 50 RX9 "past" "[LTollsForLate$Moment;" ∈ TB := tk_1 (List.mem_of_getElem? (i := 135) rfl) rfl
theorem w_235 : Cond.fieldLink RX9 71 RX9 "eldest" "I" ∈ TB := tk_1 (List.mem_of_getElem? (i := 136) rfl) rfl
theorem w_236 : Cond.fieldLink RX9 64 RX9 "steps" "I" ∈ TB := tk_1 (List.mem_of_getElem? (i := 137) rfl) rfl
theorem w_237 : Cond.fieldLink RX10 172 RX9 "steps" "I" ∈ TB := tk_1 (List.mem_of_getElem? (i := 138) rfl) rfl
theorem w_275 : Cond.classLink RX10 19 RX6 ∈ TB := tk_1 (List.mem_of_getElem? (i := 176) rfl) rfl
theorem w_276 : Cond.instantiable RX6 2 ∈ TB := tk_1 (List.mem_of_getElem? (i := 177) rfl) rfl
theorem w_278 : Cond.instanceMethod yX6_init ∈ TB := tk_1 (List.mem_of_getElem? (i := 179) rfl) rfl
theorem w_279 : Cond.code yX6_init cX6_init 1 none ∈ TB := tk_1 (List.mem_of_getElem? (i := 180) rfl) rfl
theorem w_280 : Cond.methodLink RX6 3 objectInit ∈ TB := tk_1 (List.mem_of_getElem? (i := 181) rfl) rfl
theorem w_281 : Cond.fieldLink RX6 9 RX6 "bytes" "[I" ∈ TB := tk_1 (List.mem_of_getElem? (i := 182) rfl) rfl
theorem w_282 : Cond.fieldLink RX8 38 RX6 "bytes" "[I" ∈ TB := tk_1 (List.mem_of_getElem? (i := 183) rfl) rfl
theorem w_283 : Cond.fieldLink RX6 15 RX6 "length" "I" ∈ TB := tk_1 (List.mem_of_getElem? (i := 184) rfl) rfl
theorem w_284 : Cond.fieldLink RX8 25 RX6 "length" "I" ∈ TB := tk_1 (List.mem_of_getElem? (i := 185) rfl) rfl
theorem w_285 : Cond.fieldLink RX10 93 RX6 "length" "I" ∈ TB := tk_1 (List.mem_of_getElem? (i := 186) rfl) rfl
theorem w_291 : Cond.classLink RX10 26 RX7 ∈ TB := tk_1 (List.mem_of_getElem? (i := 192) rfl) rfl
theorem w_293 : Cond.instantiable RX7 9 ∈ TB := tk_1 (List.mem_of_getElem? (i := 194) rfl) rfl
theorem w_295 : Cond.instanceMethod yX7_init ∈ TB := tk_1 (List.mem_of_getElem? (i := 196) rfl) rfl
theorem w_296 : Cond.code yX7_init cX7_init 1 none ∈ TB := tk_1 (List.mem_of_getElem? (i := 197) rfl) rfl
theorem w_297 : Cond.methodLink RX7 3 objectInit ∈ TB := tk_1 (List.mem_of_getElem? (i := 198) rfl) rfl
theorem w_298 : Cond.fieldLink RX7 9 RX7 "asks" "[I" ∈ TB := tk_1 (List.mem_of_getElem? (i := 199) rfl) rfl
theorem w_299 : Cond.fieldLink RX4 142 RX7 "asks" "[I" ∈ TB := tk_1 (List.mem_of_getElem? (i := 200) rfl) rfl
theorem w_300 : Cond.fieldLink RX7 15 RX7 "values" "[I" ∈ TB := tk_1 (List.mem_of_getElem? (i := 201) rfl) rfl
theorem w_301 : Cond.fieldLink RX4 148 RX7 "values" "[I" ∈ TB := tk_1 (List.mem_of_getElem? (i := 202) rfl) rfl
theorem w_302 : Cond.fieldLink RX7 21 RX7 "size" "I" ∈ TB := tk_1 (List.mem_of_getElem? (i := 203) rfl) rfl
theorem w_303 : Cond.fieldLink RX7 28 RX7 "runsFrom" "I" ∈ TB := tk_1 (List.mem_of_getElem? (i := 204) rfl) rfl
theorem w_304 : Cond.fieldLink RX4 59 RX7 "runsFrom" "I" ∈ TB := tk_1 (List.mem_of_getElem? (i := 205) rfl) rfl
theorem w_305 : Cond.fieldLink RX7 38 RX7 "runsTo" "I" ∈ TB := tk_1 (List.mem_of_getElem? (i := 206) rfl) rfl
theorem w_306 : Cond.fieldLink RX4 89 RX7 "runsTo" "I" ∈ TB := tk_1 (List.mem_of_getElem? (i := 207) rfl) rfl
theorem w_307 : Cond.fieldLink RX7 31 RX7 "takesFrom" "I" ∈ TB := tk_1 (List.mem_of_getElem? (i := 208) rfl) rfl
theorem w_308 : Cond.fieldLink RX4 116 RX7 "takesFrom" "I" ∈ TB := tk_1 (List.mem_of_getElem? (i := 209) rfl) rfl
theorem w_309 : Cond.fieldLink RX7 41 RX7 "takesTo" "I" ∈ TB := tk_1 (List.mem_of_getElem? (i := 210) rfl) rfl
theorem w_310 : Cond.fieldLink RX4 131 RX7 "takesTo" "I" ∈ TB := tk_1 (List.mem_of_getElem? (i := 211) rfl) rfl
theorem w_311 : Cond.fieldLink RX7 18 RX7 "clauses" "[I" ∈ TB := tk_1 (List.mem_of_getElem? (i := 212) rfl) rfl
theorem w_312 : Cond.fieldLink RX7 25 RX7 "count" "I" ∈ TB := tk_1 (List.mem_of_getElem? (i := 213) rfl) rfl
theorem w_313 : Cond.fieldLink RX5 78 RX7 "count" "I" ∈ TB := tk_1 (List.mem_of_getElem? (i := 214) rfl) rfl
theorem w_314 : Cond.fieldLink RX10 149 RX7 "count" "I" ∈ TB := tk_1 (List.mem_of_getElem? (i := 215) rfl) rfl
theorem w_334 : Cond.classLink RX10 33 RX5 ∈ TB := tk_1 (List.mem_of_getElem? (i := 235) rfl) rfl
theorem w_335 : Cond.instantiable RX5 8 ∈ TB := tk_1 (List.mem_of_getElem? (i := 236) rfl) rfl
theorem w_337 : Cond.instanceMethod yX5_init ∈ TB := tk_1 (List.mem_of_getElem? (i := 238) rfl) rfl
theorem w_338 : Cond.code yX5_init cX5_init 1 none ∈ TB := tk_1 (List.mem_of_getElem? (i := 239) rfl) rfl
theorem w_339 : Cond.methodLink RX5 3 objectInit ∈ TB := tk_2 (List.mem_of_getElem? (i := 0) rfl) rfl
theorem w_340 : Cond.classLink RX5 9 RX8 ∈ TB := tk_2 (List.mem_of_getElem? (i := 1) rfl) rfl
theorem w_341 : Cond.instantiable RX8 4 ∈ TB := tk_2 (List.mem_of_getElem? (i := 2) rfl) rfl
theorem w_343 : Cond.instanceMethod yX8_init ∈ TB := tk_2 (List.mem_of_getElem? (i := 4) rfl) rfl
theorem w_344 : Cond.code yX8_init cX8_init 1 none ∈ TB := tk_2 (List.mem_of_getElem? (i := 5) rfl) rfl
theorem w_345 : Cond.methodLink RX8 3 objectInit ∈ TB := tk_2 (List.mem_of_getElem? (i := 6) rfl) rfl
theorem w_346 : Cond.fieldLink RX8 9 RX8 "kinds" "[I" ∈ TB := tk_2 (List.mem_of_getElem? (i := 7) rfl) rfl
theorem w_347 : Cond.fieldLink RX5 58 RX8 "kinds" "[I" ∈ TB := tk_2 (List.mem_of_getElem? (i := 8) rfl) rfl
theorem w_348 : Cond.fieldLink RX8 15 RX8 "places" "[I" ∈ TB := tk_2 (List.mem_of_getElem? (i := 9) rfl) rfl
theorem w_349 : Cond.fieldLink RX5 68 RX8 "places" "[I" ∈ TB := tk_2 (List.mem_of_getElem? (i := 10) rfl) rfl
theorem w_350 : Cond.fieldLink RX8 18 RX8 "numbers" "[I" ∈ TB := tk_2 (List.mem_of_getElem? (i := 11) rfl) rfl
theorem w_351 : Cond.fieldLink RX5 62 RX8 "numbers" "[I" ∈ TB := tk_2 (List.mem_of_getElem? (i := 12) rfl) rfl
theorem w_352 : Cond.fieldLink RX8 21 RX8 "count" "I" ∈ TB := tk_2 (List.mem_of_getElem? (i := 13) rfl) rfl
theorem w_362 : Cond.classLink RX5 18 RX7 ∈ TB := tk_2 (List.mem_of_getElem? (i := 23) rfl) rfl
theorem w_364 : Cond.fieldLink RX5 12 RX5 "tokens" "LTollsForLate$Tokens;" ∈ TB := tk_2 (List.mem_of_getElem? (i := 25) rfl) rfl
theorem w_365 : Cond.fieldLink RX5 21 RX5 "into" "LTollsForLate$Text;" ∈ TB := tk_2 (List.mem_of_getElem? (i := 26) rfl) rfl
theorem w_366 : Cond.fieldLink RX5 39 RX5 "at" "I" ∈ TB := tk_2 (List.mem_of_getElem? (i := 27) rfl) rfl
theorem w_367 : Cond.fieldLink RX5 45 RX5 "kind" "I" ∈ TB := tk_2 (List.mem_of_getElem? (i := 28) rfl) rfl
theorem w_368 : Cond.fieldLink RX5 65 RX5 "number" "I" ∈ TB := tk_2 (List.mem_of_getElem? (i := 29) rfl) rfl
theorem w_369 : Cond.fieldLink RX5 85 RX5 "law" "I" ∈ TB := tk_2 (List.mem_of_getElem? (i := 30) rfl) rfl
theorem w_370 : Cond.fieldLink RX5 28 RX5 "fault" "I" ∈ TB := tk_2 (List.mem_of_getElem? (i := 31) rfl) rfl
theorem w_371 : Cond.fieldLink RX10 108 RX5 "fault" "I" ∈ TB := tk_2 (List.mem_of_getElem? (i := 32) rfl) rfl
theorem w_372 : Cond.fieldLink RX5 32 RX5 "place" "I" ∈ TB := tk_2 (List.mem_of_getElem? (i := 33) rfl) rfl
theorem w_373 : Cond.fieldLink RX10 114 RX5 "place" "I" ∈ TB := tk_2 (List.mem_of_getElem? (i := 34) rfl) rfl
theorem w_391 : Cond.classLink RX10 40 RX4 ∈ TB := tk_2 (List.mem_of_getElem? (i := 52) rfl) rfl
theorem w_392 : Cond.instantiable RX4 12 ∈ TB := tk_2 (List.mem_of_getElem? (i := 53) rfl) rfl
theorem w_393 : Cond.methodLink RX10 42 yX4_init ∈ TB := tk_2 (List.mem_of_getElem? (i := 54) rfl) rfl
theorem w_394 : Cond.instanceMethod yX4_init ∈ TB := tk_2 (List.mem_of_getElem? (i := 55) rfl) rfl
theorem w_395 : Cond.code yX4_init cX4_init 3 none ∈ TB := tk_2 (List.mem_of_getElem? (i := 56) rfl) rfl
theorem w_396 : Cond.methodLink RX4 3 objectInit ∈ TB := tk_2 (List.mem_of_getElem? (i := 57) rfl) rfl
theorem w_397 : Cond.fieldLink RX4 15 RX4 "town" "LTollsForLate$Town;" ∈ TB := tk_2 (List.mem_of_getElem? (i := 58) rfl) rfl
theorem w_398 : Cond.fieldLink RX4 19 RX4 "shelf" "[LTollsForLate$Text;" ∈ TB := tk_2 (List.mem_of_getElem? (i := 59) rfl) rfl
theorem w_399 : Cond.fieldLink RX4 9 RX4 "waiting" "[I" ∈ TB := tk_2 (List.mem_of_getElem? (i := 60) rfl) rfl
theorem w_400 : Cond.fieldLink RX4 39 RX4 "day" "I" ∈ TB := tk_2 (List.mem_of_getElem? (i := 61) rfl) rfl
theorem w_401 : Cond.fieldLink RX4 43 RX4 "weather" "I" ∈ TB := tk_2 (List.mem_of_getElem? (i := 62) rfl) rfl
theorem w_402 : Cond.fieldLink RX10 276 RX4 "weather" "I" ∈ TB := tk_2 (List.mem_of_getElem? (i := 63) rfl) rfl
theorem w_403 : Cond.fieldLink RX4 47 RX4 "bed" "I" ∈ TB := tk_2 (List.mem_of_getElem? (i := 64) rfl) rfl
theorem w_404 : Cond.fieldLink RX10 351 RX4 "bed" "I" ∈ TB := tk_2 (List.mem_of_getElem? (i := 65) rfl) rfl
theorem w_405 : Cond.fieldLink RX4 55 RX4 "law" "LTollsForLate$Text;" ∈ TB := tk_2 (List.mem_of_getElem? (i := 66) rfl) rfl
theorem w_406 : Cond.fieldLink RX10 367 RX4 "law" "LTollsForLate$Text;" ∈ TB := tk_2 (List.mem_of_getElem? (i := 67) rfl) rfl
theorem w_407 : Cond.fieldLink RX4 64 RX4 "rings" "I" ∈ TB := tk_2 (List.mem_of_getElem? (i := 68) rfl) rfl
theorem w_408 : Cond.fieldLink RX4 70 RX4 "who" "I" ∈ TB := tk_2 (List.mem_of_getElem? (i := 69) rfl) rfl
theorem w_409 : Cond.fieldLink RX4 82 RX4 "rung" "I" ∈ TB := tk_2 (List.mem_of_getElem? (i := 70) rfl) rfl
theorem w_410 : Cond.fieldLink RX4 125 RX4 "fast" "I" ∈ TB := tk_2 (List.mem_of_getElem? (i := 71) rfl) rfl
theorem w_411 : Cond.fieldLink RX4 128 RX4 "jam" "I" ∈ TB := tk_2 (List.mem_of_getElem? (i := 72) rfl) rfl
theorem w_437 : Cond.classLink RX10 49 RX1 ∈ TB := tk_2 (List.mem_of_getElem? (i := 98) rfl) rfl
theorem w_438 : Cond.instantiable RX1 3 ∈ TB := tk_2 (List.mem_of_getElem? (i := 99) rfl) rfl
theorem w_439 : Cond.methodLink RX10 51 yX1_init ∈ TB := tk_2 (List.mem_of_getElem? (i := 100) rfl) rfl
theorem w_440 : Cond.instanceMethod yX1_init ∈ TB := tk_2 (List.mem_of_getElem? (i := 101) rfl) rfl
theorem w_441 : Cond.code yX1_init cX1_init 3 none ∈ TB := tk_2 (List.mem_of_getElem? (i := 102) rfl) rfl
theorem w_442 : Cond.methodLink RX1 3 objectInit ∈ TB := tk_2 (List.mem_of_getElem? (i := 103) rfl) rfl
theorem w_443 : Cond.classLink RX1 9 RX3 ∈ TB := tk_2 (List.mem_of_getElem? (i := 104) rfl) rfl
theorem w_445 : Cond.fieldLink RX1 18 RX1 "town" "LTollsForLate$Town;" ∈ TB := tk_2 (List.mem_of_getElem? (i := 106) rfl) rfl
theorem w_446 : Cond.fieldLink RX1 22 RX1 "morning" "LTollsForLate$Morning;" ∈ TB := tk_2 (List.mem_of_getElem? (i := 107) rfl) rfl
theorem w_447 : Cond.fieldLink RX1 12 RX1 "ahead" "LTollsForLate$Moment;" ∈ TB := tk_2 (List.mem_of_getElem? (i := 108) rfl) rfl
theorem w_455 : Cond.classLink RX10 58 RX2 ∈ TB := tk_2 (List.mem_of_getElem? (i := 116) rfl) rfl
theorem w_456 : Cond.instantiable RX2 6 ∈ TB := tk_2 (List.mem_of_getElem? (i := 117) rfl) rfl
theorem w_457 : Cond.methodLink RX10 60 yX2_init ∈ TB := tk_2 (List.mem_of_getElem? (i := 118) rfl) rfl
theorem w_458 : Cond.instanceMethod yX2_init ∈ TB := tk_2 (List.mem_of_getElem? (i := 119) rfl) rfl
theorem w_459 : Cond.code yX2_init cX2_init 3 none ∈ TB := tk_2 (List.mem_of_getElem? (i := 120) rfl) rfl
theorem w_460 : Cond.methodLink RX2 3 objectInit ∈ TB := tk_2 (List.mem_of_getElem? (i := 121) rfl) rfl
theorem w_461 : Cond.fieldLink RX2 25 RX2 "town" "LTollsForLate$Town;" ∈ TB := tk_2 (List.mem_of_getElem? (i := 122) rfl) rfl
theorem w_462 : Cond.fieldLink RX2 29 RX2 "morning" "LTollsForLate$Morning;" ∈ TB := tk_2 (List.mem_of_getElem? (i := 123) rfl) rfl
theorem w_463 : Cond.fieldLink RX2 9 RX2 "to" "[I" ∈ TB := tk_2 (List.mem_of_getElem? (i := 124) rfl) rfl
theorem w_464 : Cond.fieldLink RX2 15 RX2 "known" "[I" ∈ TB := tk_2 (List.mem_of_getElem? (i := 125) rfl) rfl
theorem w_465 : Cond.fieldLink RX2 18 RX2 "marks" "[I" ∈ TB := tk_2 (List.mem_of_getElem? (i := 126) rfl) rfl
theorem w_466 : Cond.fieldLink RX2 21 RX2 "turn" "I" ∈ TB := tk_2 (List.mem_of_getElem? (i := 127) rfl) rfl
theorem w_480 : Cond.classLink RX10 65 RX0 ∈ TB := tk_2 (List.mem_of_getElem? (i := 141) rfl) rfl
theorem w_481 : Cond.instantiable RX0 6 ∈ TB := tk_2 (List.mem_of_getElem? (i := 142) rfl) rfl
theorem w_482 : Cond.methodLink RX10 67 yX0_init ∈ TB := tk_2 (List.mem_of_getElem? (i := 143) rfl) rfl
theorem w_483 : Cond.instanceMethod yX0_init ∈ TB := tk_2 (List.mem_of_getElem? (i := 144) rfl) rfl
theorem w_484 : Cond.code yX0_init cX0_init 3 none ∈ TB := tk_2 (List.mem_of_getElem? (i := 145) rfl) rfl
theorem w_485 : Cond.methodLink RX0 3 objectInit ∈ TB := tk_2 (List.mem_of_getElem? (i := 146) rfl) rfl
theorem w_486 : Cond.fieldLink RX0 21 RX0 "town" "LTollsForLate$Town;" ∈ TB := tk_2 (List.mem_of_getElem? (i := 147) rfl) rfl
theorem w_487 : Cond.fieldLink RX0 25 RX0 "leads" "LTollsForLate$Leads;" ∈ TB := tk_2 (List.mem_of_getElem? (i := 148) rfl) rfl
theorem w_488 : Cond.fieldLink RX0 9 RX0 "days" "[I" ∈ TB := tk_2 (List.mem_of_getElem? (i := 149) rfl) rfl
theorem w_489 : Cond.fieldLink RX0 15 RX0 "lateOn" "[I" ∈ TB := tk_2 (List.mem_of_getElem? (i := 150) rfl) rfl
theorem w_490 : Cond.fieldLink RX0 18 RX0 "asked" "[I" ∈ TB := tk_2 (List.mem_of_getElem? (i := 151) rfl) rfl
theorem w_491 : Cond.fieldLink RX0 29 RX0 "count" "I" ∈ TB := tk_2 (List.mem_of_getElem? (i := 152) rfl) rfl
theorem w_492 : Cond.fieldLink RX10 327 RX0 "count" "I" ∈ TB := tk_2 (List.mem_of_getElem? (i := 153) rfl) rfl
theorem w_506 : Cond.fieldLink RX10 12 RX10 "town" "LTollsForLate$Town;" ∈ TB := tk_2 (List.mem_of_getElem? (i := 167) rfl) rfl
theorem w_507 : Cond.fieldLink RX10 16 RX10 "imaged" "LTollsForLate$Town;" ∈ TB := tk_2 (List.mem_of_getElem? (i := 168) rfl) rfl
theorem w_508 : Cond.fieldLink RX10 22 RX10 "tape" "LTollsForLate$Tape;" ∈ TB := tk_2 (List.mem_of_getElem? (i := 169) rfl) rfl
theorem w_509 : Cond.fieldLink RX10 28 RX10 "shelf" "[LTollsForLate$Text;" ∈ TB := tk_2 (List.mem_of_getElem? (i := 170) rfl) rfl
theorem w_510 : Cond.fieldLink RX10 36 RX10 "reader" "LTollsForLate$Reader;" ∈ TB := tk_2 (List.mem_of_getElem? (i := 171) rfl) rfl
theorem w_511 : Cond.fieldLink RX10 45 RX10 "morning" "LTollsForLate$Morning;" ∈ TB := tk_2 (List.mem_of_getElem? (i := 172) rfl) rfl
theorem w_512 : Cond.fieldLink RX10 54 RX10 "deeds" "LTollsForLate$Deeds;" ∈ TB := tk_2 (List.mem_of_getElem? (i := 173) rfl) rfl
theorem w_513 : Cond.fieldLink RX10 61 RX10 "leads" "LTollsForLate$Leads;" ∈ TB := tk_2 (List.mem_of_getElem? (i := 174) rfl) rfl
theorem w_514 : Cond.fieldLink RX10 70 RX10 "beliefs" "LTollsForLate$Beliefs;" ∈ TB := tk_2 (List.mem_of_getElem? (i := 175) rfl) rfl
theorem w_515 : Cond.fieldLink RX10 104 RX10 "wasRead" "Z" ∈ TB := tk_2 (List.mem_of_getElem? (i := 176) rfl) rfl
theorem w_516 : Cond.fieldLink RX10 111 RX10 "lastFault" "I" ∈ TB := tk_2 (List.mem_of_getElem? (i := 177) rfl) rfl
theorem w_517 : Cond.fieldLink RX10 117 RX10 "lastPlace" "I" ∈ TB := tk_2 (List.mem_of_getElem? (i := 178) rfl) rfl
theorem w_547 : Cond.methodLink RX10 74 yX2_forget ∈ TB := tk_2 (List.mem_of_getElem? (i := 208) rfl) rfl
theorem w_548 : Cond.instanceMethod yX2_forget ∈ TB := tk_2 (List.mem_of_getElem? (i := 209) rfl) rfl
theorem w_549 : Cond.selects RX2 yX2_forget yX2_forget ∈ TB := tk_2 (List.mem_of_getElem? (i := 210) rfl) rfl
theorem w_550 : Cond.code yX2_forget cX2_forget 1 none ∈ TB := tk_2 (List.mem_of_getElem? (i := 211) rfl) rfl
theorem w_551 : Cond.methodLink RX10 77 yX9_tell ∈ TB := tk_2 (List.mem_of_getElem? (i := 212) rfl) rfl
theorem w_552 : Cond.instanceMethod yX9_tell ∈ TB := tk_2 (List.mem_of_getElem? (i := 213) rfl) rfl
theorem w_553 : Cond.selects RX9 yX9_tell yX9_tell ∈ TB := tk_2 (List.mem_of_getElem? (i := 214) rfl) rfl
theorem w_554 : Cond.code yX9_tell cX9_tell 7 (some .int) ∈ TB := tk_2 (List.mem_of_getElem? (i := 215) rfl) rfl
theorem w_555 : Cond.methodLink RX9 67 yX9_aheadOf ∈ TB := tk_2 (List.mem_of_getElem? (i := 216) rfl) rfl
theorem w_557 : Cond.instanceMethod yX9_aheadOf ∈ TB := tk_2 (List.mem_of_getElem? (i := 218) rfl) rfl
theorem w_558 : Cond.code yX9_aheadOf cX9_aheadOf 3 (some (.object "TollsForLate$Moment")) ∈ TB := tk_2 (List.mem_of_getElem? (i := 219) rfl) rfl
theorem w_567 : Cond.methodLink RX10 85 yX6_hasRoomForFive ∈ TB := tk_2 (List.mem_of_getElem? (i := 228) rfl) rfl
theorem w_568 : Cond.instanceMethod yX6_hasRoomForFive ∈ TB := tk_2 (List.mem_of_getElem? (i := 229) rfl) rfl
theorem w_569 : Cond.selects RX6 yX6_hasRoomForFive yX6_hasRoomForFive ∈ TB := tk_2 (List.mem_of_getElem? (i := 230) rfl) rfl
theorem w_570 : Cond.code yX6_hasRoomForFive cX6_hasRoomForFive 1 (some .boolean) ∈ TB := tk_2 (List.mem_of_getElem? (i := 231) rfl) rfl
theorem w_571 : Cond.methodLink RX10 89 yX6_append ∈ TB := tk_2 (List.mem_of_getElem? (i := 232) rfl) rfl
theorem w_572 : Cond.instanceMethod yX6_append ∈ TB := tk_2 (List.mem_of_getElem? (i := 233) rfl) rfl
theorem w_573 : Cond.selects RX6 yX6_append yX6_append ∈ TB := tk_2 (List.mem_of_getElem? (i := 234) rfl) rfl
theorem w_574 : Cond.code yX6_append cX6_append 3 none ∈ TB := tk_2 (List.mem_of_getElem? (i := 235) rfl) rfl
theorem w_583 : Cond.methodLink RX10 100 yX5_readInto ∈ TB := tk_3 (List.mem_of_getElem? (i := 4) rfl) rfl
theorem w_584 : Cond.instanceMethod yX5_readInto ∈ TB := tk_3 (List.mem_of_getElem? (i := 5) rfl) rfl
theorem w_585 : Cond.selects RX5 yX5_readInto yX5_readInto ∈ TB := tk_3 (List.mem_of_getElem? (i := 6) rfl) rfl
theorem w_586 : Cond.code yX5_readInto cX5_readInto 5 none ∈ TB := tk_3 (List.mem_of_getElem? (i := 7) rfl) rfl
theorem w_587 : Cond.methodLink RX5 25 yX7_clear ∈ TB := tk_3 (List.mem_of_getElem? (i := 8) rfl) rfl
theorem w_588 : Cond.instanceMethod yX7_clear ∈ TB := tk_3 (List.mem_of_getElem? (i := 9) rfl) rfl
theorem w_589 : Cond.selects RX7 yX7_clear yX7_clear ∈ TB := tk_3 (List.mem_of_getElem? (i := 10) rfl) rfl
theorem w_590 : Cond.code yX7_clear cX7_clear 1 none ∈ TB := tk_3 (List.mem_of_getElem? (i := 11) rfl) rfl
theorem w_591 : Cond.methodLink RX5 35 yX8_cut ∈ TB := tk_3 (List.mem_of_getElem? (i := 12) rfl) rfl
theorem w_592 : Cond.instanceMethod yX8_cut ∈ TB := tk_3 (List.mem_of_getElem? (i := 13) rfl) rfl
theorem w_593 : Cond.selects RX8 yX8_cut yX8_cut ∈ TB := tk_3 (List.mem_of_getElem? (i := 14) rfl) rfl
theorem w_594 : Cond.code yX8_cut cX8_cut 4 none ∈ TB := tk_3 (List.mem_of_getElem? (i := 15) rfl) rfl
theorem w_595 : Cond.methodLink RX8 30 yX8_cutOne ∈ TB := tk_3 (List.mem_of_getElem? (i := 16) rfl) rfl
theorem w_597 : Cond.instanceMethod yX8_cutOne ∈ TB := tk_3 (List.mem_of_getElem? (i := 18) rfl) rfl
theorem w_598 : Cond.code yX8_cutOne cX8_cutOne 7 (some .int) ∈ TB := tk_3 (List.mem_of_getElem? (i := 19) rfl) rfl
theorem w_599 : Cond.methodLink RX8 41 yX8_isLetter ∈ TB := tk_3 (List.mem_of_getElem? (i := 20) rfl) rfl
theorem w_600 : Cond.static yX8_isLetter ∈ TB := tk_3 (List.mem_of_getElem? (i := 21) rfl) rfl
theorem w_601 : Cond.code yX8_isLetter cX8_isLetter 1 (some .boolean) ∈ TB := tk_3 (List.mem_of_getElem? (i := 22) rfl) rfl
theorem w_602 : Cond.methodLink RX8 45 yX8_wordOf ∈ TB := tk_3 (List.mem_of_getElem? (i := 23) rfl) rfl
theorem w_603 : Cond.static yX8_wordOf ∈ TB := tk_3 (List.mem_of_getElem? (i := 24) rfl) rfl
theorem w_604 : Cond.code yX8_wordOf cX8_wordOf 8 (some .int) ∈ TB := tk_3 (List.mem_of_getElem? (i := 25) rfl) rfl
theorem w_606 : Cond.methodLink RX8 71 yJ0_length_8abf5 ∈ TB := tk_3 (List.mem_of_getElem? (i := 27) rfl) rfl
theorem w_607 : Cond.instanceMethod yJ0_length_8abf5 ∈ TB := tk_3 (List.mem_of_getElem? (i := 28) rfl) rfl
theorem w_608 : Cond.selects RJ0 yJ0_length_8abf5 yJ0_length_8abf5 ∈ TB := tk_3 (List.mem_of_getElem? (i := 29) rfl) rfl
theorem w_609 : Cond.code yJ0_length_8abf5 cJ0_length_8abf5 1 (some .int) ∈ TB := tk_3 (List.mem_of_getElem? (i := 30) rfl) rfl
theorem w_610 : Cond.methodLink RJ0 335 yJ0_coder_7d493 ∈ TB := tk_3 (List.mem_of_getElem? (i := 31) rfl) rfl
theorem w_611 : Cond.instanceMethod yJ0_coder_7d493 ∈ TB := tk_3 (List.mem_of_getElem? (i := 32) rfl) rfl
theorem w_612 : Cond.selects RJ0 yJ0_coder_7d493 yJ0_coder_7d493 ∈ TB := tk_3 (List.mem_of_getElem? (i := 33) rfl) rfl
theorem w_613 : Cond.code yJ0_coder_7d493 cJ0_coder_7d493 1 (some .byte) ∈ TB := tk_3 (List.mem_of_getElem? (i := 34) rfl) rfl
theorem w_614 : Cond.fieldLink RJ0 38 RJ0 "COMPACT_STRINGS" "Z" ∈ TB := tk_3 (List.mem_of_getElem? (i := 35) rfl) rfl
theorem w_616 : Cond.methodLink RX8 74 yJ0_charAt_5068e ∈ TB := tk_3 (List.mem_of_getElem? (i := 37) rfl) rfl
theorem w_617 : Cond.instanceMethod yJ0_charAt_5068e ∈ TB := tk_3 (List.mem_of_getElem? (i := 38) rfl) rfl
theorem w_618 : Cond.selects RJ0 yJ0_charAt_5068e yJ0_charAt_5068e ∈ TB := tk_3 (List.mem_of_getElem? (i := 39) rfl) rfl
theorem w_619 : Cond.code yJ0_charAt_5068e cJ0_charAt_5068e 2 (some .char) ∈ TB := tk_3 (List.mem_of_getElem? (i := 40) rfl) rfl
theorem w_620 : Cond.methodLink RJ0 492 yJ0_isLatin1_aae02 ∈ TB := tk_3 (List.mem_of_getElem? (i := 41) rfl) rfl
theorem w_621 : Cond.instanceMethod yJ0_isLatin1_aae02 ∈ TB := tk_3 (List.mem_of_getElem? (i := 42) rfl) rfl
theorem w_622 : Cond.selects RJ0 yJ0_isLatin1_aae02 yJ0_isLatin1_aae02 ∈ TB := tk_3 (List.mem_of_getElem? (i := 43) rfl) rfl
theorem w_623 : Cond.code yJ0_isLatin1_aae02 cJ0_isLatin1_aae02 1 (some .boolean) ∈ TB := tk_3 (List.mem_of_getElem? (i := 44) rfl) rfl
theorem w_624 : Cond.methodLink RJ0 495 yJ1_charAt_3b067 ∈ TB := tk_3 (List.mem_of_getElem? (i := 45) rfl) rfl
theorem w_625 : Cond.static yJ1_charAt_3b067 ∈ TB := tk_3 (List.mem_of_getElem? (i := 46) rfl) rfl
theorem w_626 : Cond.code yJ1_charAt_3b067 cJ1_charAt_3b067 2 (some .char) ∈ TB := tk_3 (List.mem_of_getElem? (i := 47) rfl) rfl
theorem w_627 : Cond.methodLink RJ1 9 yJ0_checkIndex_df160 ∈ TB := tk_3 (List.mem_of_getElem? (i := 48) rfl) rfl
theorem w_628 : Cond.static yJ0_checkIndex_df160 ∈ TB := tk_3 (List.mem_of_getElem? (i := 49) rfl) rfl
theorem w_629 : Cond.code yJ0_checkIndex_df160 cJ0_checkIndex_df160 2 none ∈ TB := tk_3 (List.mem_of_getElem? (i := 50) rfl) rfl
theorem w_630 : Cond.fieldLink RJ0 1053 RJ3 "SIOOBE_FORMATTER" "Ljava/util/function/BiFunction;" ∈ TB := tk_3 (List.mem_of_getElem? (i := 51) rfl) rfl
theorem w_632 : Cond.methodLink RJ0 1059 yJ3_checkIndex_8e157 ∈ TB := tk_3 (List.mem_of_getElem? (i := 53) rfl) rfl
theorem w_633 : Cond.static yJ3_checkIndex_8e157 ∈ TB := tk_3 (List.mem_of_getElem? (i := 54) rfl) rfl
theorem w_634 : Cond.code yJ3_checkIndex_8e157 cJ3_checkIndex_8e157 3 (some .int) ∈ TB := tk_3 (List.mem_of_getElem? (i := 55) rfl) rfl
theorem w_654 : Cond.methodLink RX8 34 yX8_add ∈ TB := tk_3 (List.mem_of_getElem? (i := 75) rfl) rfl
theorem w_656 : Cond.instanceMethod yX8_add ∈ TB := tk_3 (List.mem_of_getElem? (i := 77) rfl) rfl
theorem w_657 : Cond.code yX8_add cX8_add 4 none ∈ TB := tk_3 (List.mem_of_getElem? (i := 78) rfl) rfl
theorem w_658 : Cond.methodLink RX8 49 yX8_isDigit ∈ TB := tk_3 (List.mem_of_getElem? (i := 79) rfl) rfl
theorem w_659 : Cond.static yX8_isDigit ∈ TB := tk_3 (List.mem_of_getElem? (i := 80) rfl) rfl
theorem w_660 : Cond.code yX8_isDigit cX8_isDigit 1 (some .boolean) ∈ TB := tk_3 (List.mem_of_getElem? (i := 81) rfl) rfl
theorem w_661 : Cond.methodLink RX8 52 Lib.Math.min.name ∈ TB := tk_3 (List.mem_of_getElem? (i := 82) rfl) rfl
theorem w_662 : Cond.static Lib.Math.min.name ∈ TB := tk_3 (List.mem_of_getElem? (i := 83) rfl) rfl
theorem w_663 : Cond.code Lib.Math.min.name Lib.Math.min.code 2 (some .int) ∈ TB := tk_3 (List.mem_of_getElem? (i := 84) rfl) rfl
theorem w_664 : Cond.methodLink RX8 58 yX8_signOf ∈ TB := tk_3 (List.mem_of_getElem? (i := 85) rfl) rfl
theorem w_665 : Cond.static yX8_signOf ∈ TB := tk_3 (List.mem_of_getElem? (i := 86) rfl) rfl
theorem w_666 : Cond.code yX8_signOf cX8_signOf 3 (some .int) ∈ TB := tk_3 (List.mem_of_getElem? (i := 87) rfl) rfl
theorem w_668 : Cond.methodLink RX8 63 yJ0_indexOf_0f7a4 ∈ TB := tk_3 (List.mem_of_getElem? (i := 89) rfl) rfl
theorem w_669 : Cond.instanceMethod yJ0_indexOf_0f7a4 ∈ TB := tk_3 (List.mem_of_getElem? (i := 90) rfl) rfl
theorem w_670 : Cond.selects RJ0 yJ0_indexOf_0f7a4 yJ0_indexOf_0f7a4 ∈ TB := tk_3 (List.mem_of_getElem? (i := 91) rfl) rfl
theorem w_671 : Cond.code yJ0_indexOf_0f7a4 cJ0_indexOf_0f7a4 2 (some .int) ∈ TB := tk_3 (List.mem_of_getElem? (i := 92) rfl) rfl
theorem w_672 : Cond.methodLink RJ0 633 yJ0_indexOf_7cf53 ∈ TB := tk_3 (List.mem_of_getElem? (i := 93) rfl) rfl
theorem w_673 : Cond.instanceMethod yJ0_indexOf_7cf53 ∈ TB := tk_3 (List.mem_of_getElem? (i := 94) rfl) rfl
theorem w_674 : Cond.selects RJ0 yJ0_indexOf_7cf53 yJ0_indexOf_7cf53 ∈ TB := tk_3 (List.mem_of_getElem? (i := 95) rfl) rfl
theorem w_675 : Cond.code yJ0_indexOf_7cf53 cJ0_indexOf_7cf53 3 (some .int) ∈ TB := tk_3 (List.mem_of_getElem? (i := 96) rfl) rfl
theorem w_676 : Cond.methodLink RJ0 505 yJ0_length_8abf5 ∈ TB := tk_3 (List.mem_of_getElem? (i := 97) rfl) rfl
theorem w_677 : Cond.methodLink RJ0 637 yJ1_indexOf_4cfef ∈ TB := tk_3 (List.mem_of_getElem? (i := 98) rfl) rfl
theorem w_678 : Cond.static yJ1_indexOf_4cfef ∈ TB := tk_3 (List.mem_of_getElem? (i := 99) rfl) rfl
theorem w_679 : Cond.code yJ1_indexOf_4cfef cJ1_indexOf_4cfef 4 (some .int) ∈ TB := tk_3 (List.mem_of_getElem? (i := 100) rfl) rfl
theorem w_680 : Cond.methodLink RJ1 88 yJ1_canEncode_9a6ad ∈ TB := tk_3 (List.mem_of_getElem? (i := 101) rfl) rfl
theorem w_681 : Cond.static yJ1_canEncode_9a6ad ∈ TB := tk_3 (List.mem_of_getElem? (i := 102) rfl) rfl
theorem w_682 : Cond.code yJ1_canEncode_9a6ad cJ1_canEncode_9a6ad 1 (some .boolean) ∈ TB := tk_3 (List.mem_of_getElem? (i := 103) rfl) rfl
theorem w_683 : Cond.methodLink RJ1 92 Lib.Math.max.name ∈ TB := tk_3 (List.mem_of_getElem? (i := 104) rfl) rfl
theorem w_684 : Cond.static Lib.Math.max.name ∈ TB := tk_3 (List.mem_of_getElem? (i := 105) rfl) rfl
theorem w_685 : Cond.code Lib.Math.max.name Lib.Math.max.code 2 (some .int) ∈ TB := tk_3 (List.mem_of_getElem? (i := 106) rfl) rfl
theorem w_686 : Cond.methodLink RJ1 38 Lib.Math.min.name ∈ TB := tk_3 (List.mem_of_getElem? (i := 107) rfl) rfl
theorem w_687 : Cond.methodLink RJ1 95 yJ1_indexOfChar_4cfef ∈ TB := tk_3 (List.mem_of_getElem? (i := 108) rfl) rfl
theorem w_688 : Cond.static yJ1_indexOfChar_4cfef ∈ TB := tk_3 (List.mem_of_getElem? (i := 109) rfl) rfl
theorem w_689 : Cond.code yJ1_indexOfChar_4cfef cJ1_indexOfChar_4cfef 6 (some .int) ∈ TB := tk_3 (List.mem_of_getElem? (i := 110) rfl) rfl
theorem w_725 : Cond.methodLink RX5 42 yX5_next ∈ TB := tk_3 (List.mem_of_getElem? (i := 146) rfl) rfl
theorem w_727 : Cond.instanceMethod yX5_next ∈ TB := tk_3 (List.mem_of_getElem? (i := 148) rfl) rfl
theorem w_728 : Cond.code yX5_next cX5_next 1 none ∈ TB := tk_3 (List.mem_of_getElem? (i := 149) rfl) rfl
theorem w_729 : Cond.methodLink RX5 52 Lib.Math.min.name ∈ TB := tk_3 (List.mem_of_getElem? (i := 150) rfl) rfl
theorem w_730 : Cond.methodLink RX5 48 yX5_clause ∈ TB := tk_3 (List.mem_of_getElem? (i := 151) rfl) rfl
theorem w_732 : Cond.instanceMethod yX5_clause ∈ TB := tk_3 (List.mem_of_getElem? (i := 153) rfl) rfl
theorem w_733 : Cond.code yX5_clause cX5_clause 4 (some .boolean) ∈ TB := tk_3 (List.mem_of_getElem? (i := 154) rfl) rfl
theorem w_734 : Cond.methodLink RX5 71 yX5_refuse ∈ TB := tk_3 (List.mem_of_getElem? (i := 155) rfl) rfl
theorem w_736 : Cond.instanceMethod yX5_refuse ∈ TB := tk_3 (List.mem_of_getElem? (i := 157) rfl) rfl
theorem w_737 : Cond.code yX5_refuse cX5_refuse 2 (some .boolean) ∈ TB := tk_3 (List.mem_of_getElem? (i := 158) rfl) rfl
theorem w_738 : Cond.methodLink RX5 75 yX7_has ∈ TB := tk_3 (List.mem_of_getElem? (i := 159) rfl) rfl
theorem w_739 : Cond.instanceMethod yX7_has ∈ TB := tk_3 (List.mem_of_getElem? (i := 160) rfl) rfl
theorem w_740 : Cond.selects RX7 yX7_has yX7_has ∈ TB := tk_3 (List.mem_of_getElem? (i := 161) rfl) rfl
theorem w_741 : Cond.code yX7_has cX7_has 2 (some .boolean) ∈ TB := tk_3 (List.mem_of_getElem? (i := 162) rfl) rfl
theorem w_742 : Cond.methodLink RX5 81 yX7_startClause ∈ TB := tk_3 (List.mem_of_getElem? (i := 163) rfl) rfl
theorem w_743 : Cond.instanceMethod yX7_startClause ∈ TB := tk_3 (List.mem_of_getElem? (i := 164) rfl) rfl
theorem w_744 : Cond.selects RX7 yX7_startClause yX7_startClause ∈ TB := tk_3 (List.mem_of_getElem? (i := 165) rfl) rfl
theorem w_745 : Cond.code yX7_startClause cX7_startClause 2 none ∈ TB := tk_3 (List.mem_of_getElem? (i := 166) rfl) rfl
theorem w_746 : Cond.methodLink RX7 34 yX7_put ∈ TB := tk_3 (List.mem_of_getElem? (i := 167) rfl) rfl
theorem w_747 : Cond.instanceMethod yX7_put ∈ TB := tk_3 (List.mem_of_getElem? (i := 168) rfl) rfl
theorem w_748 : Cond.selects RX7 yX7_put yX7_put ∈ TB := tk_3 (List.mem_of_getElem? (i := 169) rfl) rfl
theorem w_749 : Cond.code yX7_put cX7_put 4 none ∈ TB := tk_3 (List.mem_of_getElem? (i := 170) rfl) rfl
theorem w_750 : Cond.methodLink RX5 88 yX5_sum ∈ TB := tk_3 (List.mem_of_getElem? (i := 171) rfl) rfl
theorem w_752 : Cond.instanceMethod yX5_sum ∈ TB := tk_3 (List.mem_of_getElem? (i := 173) rfl) rfl
theorem w_753 : Cond.code yX5_sum cX5_sum 5 (some .boolean) ∈ TB := tk_3 (List.mem_of_getElem? (i := 174) rfl) rfl
theorem w_754 : Cond.methodLink RX5 108 yX5_product ∈ TB := tk_3 (List.mem_of_getElem? (i := 175) rfl) rfl
theorem w_756 : Cond.instanceMethod yX5_product ∈ TB := tk_3 (List.mem_of_getElem? (i := 177) rfl) rfl
theorem w_757 : Cond.code yX5_product cX5_product 5 (some .boolean) ∈ TB := tk_3 (List.mem_of_getElem? (i := 178) rfl) rfl
theorem w_758 : Cond.methodLink RX5 114 yX5_one ∈ TB := tk_3 (List.mem_of_getElem? (i := 179) rfl) rfl
theorem w_760 : Cond.instanceMethod yX5_one ∈ TB := tk_3 (List.mem_of_getElem? (i := 181) rfl) rfl
theorem w_761 : Cond.code yX5_one cX5_one 2 (some .boolean) ∈ TB := tk_3 (List.mem_of_getElem? (i := 182) rfl) rfl
theorem w_762 : Cond.methodLink RX5 111 yX7_add ∈ TB := tk_3 (List.mem_of_getElem? (i := 183) rfl) rfl
theorem w_763 : Cond.instanceMethod yX7_add ∈ TB := tk_3 (List.mem_of_getElem? (i := 184) rfl) rfl
theorem w_764 : Cond.selects RX7 yX7_add yX7_add ∈ TB := tk_3 (List.mem_of_getElem? (i := 185) rfl) rfl
theorem w_765 : Cond.code yX7_add cX7_add 3 (some .int) ∈ TB := tk_3 (List.mem_of_getElem? (i := 186) rfl) rfl
theorem w_766 : Cond.methodLink RX5 117 yX5_opens ∈ TB := tk_3 (List.mem_of_getElem? (i := 187) rfl) rfl
theorem w_768 : Cond.instanceMethod yX5_opens ∈ TB := tk_3 (List.mem_of_getElem? (i := 189) rfl) rfl
theorem w_769 : Cond.code yX5_opens cX5_opens 2 (some .boolean) ∈ TB := tk_3 (List.mem_of_getElem? (i := 190) rfl) rfl
theorem w_770 : Cond.methodLink RX5 94 yX5_accept ∈ TB := tk_3 (List.mem_of_getElem? (i := 191) rfl) rfl
theorem w_772 : Cond.instanceMethod yX5_accept ∈ TB := tk_3 (List.mem_of_getElem? (i := 193) rfl) rfl
theorem w_773 : Cond.code yX5_accept cX5_accept 2 (some .boolean) ∈ TB := tk_3 (List.mem_of_getElem? (i := 194) rfl) rfl
theorem w_774 : Cond.methodLink RX5 120 yX5_put ∈ TB := tk_3 (List.mem_of_getElem? (i := 195) rfl) rfl
theorem w_776 : Cond.instanceMethod yX5_put ∈ TB := tk_3 (List.mem_of_getElem? (i := 197) rfl) rfl
theorem w_777 : Cond.code yX5_put cX5_put 2 (some .boolean) ∈ TB := tk_3 (List.mem_of_getElem? (i := 198) rfl) rfl
theorem w_778 : Cond.methodLink RX5 122 yX5_choice ∈ TB := tk_3 (List.mem_of_getElem? (i := 199) rfl) rfl
theorem w_780 : Cond.instanceMethod yX5_choice ∈ TB := tk_3 (List.mem_of_getElem? (i := 201) rfl) rfl
theorem w_781 : Cond.code yX5_choice cX5_choice 4 (some .boolean) ∈ TB := tk_3 (List.mem_of_getElem? (i := 202) rfl) rfl
theorem w_782 : Cond.methodLink RX5 132 yX5_either ∈ TB := tk_3 (List.mem_of_getElem? (i := 203) rfl) rfl
theorem w_784 : Cond.instanceMethod yX5_either ∈ TB := tk_3 (List.mem_of_getElem? (i := 205) rfl) rfl
theorem w_785 : Cond.code yX5_either cX5_either 5 (some .boolean) ∈ TB := tk_3 (List.mem_of_getElem? (i := 206) rfl) rfl
theorem w_786 : Cond.methodLink RX5 138 yX5_both ∈ TB := tk_3 (List.mem_of_getElem? (i := 207) rfl) rfl
theorem w_788 : Cond.instanceMethod yX5_both ∈ TB := tk_3 (List.mem_of_getElem? (i := 209) rfl) rfl
theorem w_789 : Cond.code yX5_both cX5_both 4 (some .boolean) ∈ TB := tk_3 (List.mem_of_getElem? (i := 210) rfl) rfl
theorem w_790 : Cond.methodLink RX5 141 yX5_ask ∈ TB := tk_3 (List.mem_of_getElem? (i := 211) rfl) rfl
theorem w_792 : Cond.instanceMethod yX5_ask ∈ TB := tk_3 (List.mem_of_getElem? (i := 213) rfl) rfl
theorem w_793 : Cond.code yX5_ask cX5_ask 3 (some .boolean) ∈ TB := tk_3 (List.mem_of_getElem? (i := 214) rfl) rfl
theorem w_794 : Cond.methodLink RX5 135 yX7_skipToHere ∈ TB := tk_3 (List.mem_of_getElem? (i := 215) rfl) rfl
theorem w_795 : Cond.instanceMethod yX7_skipToHere ∈ TB := tk_3 (List.mem_of_getElem? (i := 216) rfl) rfl
theorem w_796 : Cond.selects RX7 yX7_skipToHere yX7_skipToHere ∈ TB := tk_3 (List.mem_of_getElem? (i := 217) rfl) rfl
theorem w_797 : Cond.code yX7_skipToHere cX7_skipToHere 2 none ∈ TB := tk_3 (List.mem_of_getElem? (i := 218) rfl) rfl
theorem w_798 : Cond.methodLink RX5 125 yX5_name ∈ TB := tk_3 (List.mem_of_getElem? (i := 219) rfl) rfl
theorem w_800 : Cond.instanceMethod yX5_name ∈ TB := tk_3 (List.mem_of_getElem? (i := 221) rfl) rfl
theorem w_801 : Cond.code yX5_name cX5_name 3 (some .boolean) ∈ TB := tk_3 (List.mem_of_getElem? (i := 222) rfl) rfl
theorem w_803 : Cond.static yX10_isName ∈ TB := tk_3 (List.mem_of_getElem? (i := 224) rfl) rfl
theorem w_804 : Cond.code yX10_isName cX10_isName 1 (some .boolean) ∈ TB := tk_3 (List.mem_of_getElem? (i := 225) rfl) rfl
theorem w_805 : Cond.methodLink RX5 91 yX5_plain ∈ TB := tk_3 (List.mem_of_getElem? (i := 226) rfl) rfl
theorem w_807 : Cond.instanceMethod yX5_plain ∈ TB := tk_3 (List.mem_of_getElem? (i := 228) rfl) rfl
theorem w_808 : Cond.code yX5_plain cX5_plain 2 (some .boolean) ∈ TB := tk_3 (List.mem_of_getElem? (i := 229) rfl) rfl
theorem w_809 : Cond.methodLink RX5 100 yX5_told ∈ TB := tk_3 (List.mem_of_getElem? (i := 230) rfl) rfl
theorem w_811 : Cond.instanceMethod yX5_told ∈ TB := tk_3 (List.mem_of_getElem? (i := 232) rfl) rfl
theorem w_812 : Cond.code yX5_told cX5_told 4 (some .boolean) ∈ TB := tk_3 (List.mem_of_getElem? (i := 233) rfl) rfl
theorem w_813 : Cond.methodLink RX5 104 yX7_put ∈ TB := tk_3 (List.mem_of_getElem? (i := 234) rfl) rfl
theorem w_814 : Cond.methodLink RX5 97 yX7_endClause ∈ TB := tk_3 (List.mem_of_getElem? (i := 235) rfl) rfl
theorem w_815 : Cond.instanceMethod yX7_endClause ∈ TB := tk_3 (List.mem_of_getElem? (i := 236) rfl) rfl
theorem w_816 : Cond.selects RX7 yX7_endClause yX7_endClause ∈ TB := tk_3 (List.mem_of_getElem? (i := 237) rfl) rfl
theorem w_817 : Cond.code yX7_endClause cX7_endClause 2 none ∈ TB := tk_3 (List.mem_of_getElem? (i := 238) rfl) rfl
theorem w_831 : Cond.methodLink RX10 123 yX1_ringFor ∈ TB := tk_4 (List.mem_of_getElem? (i := 12) rfl) rfl
theorem w_832 : Cond.instanceMethod yX1_ringFor ∈ TB := tk_4 (List.mem_of_getElem? (i := 13) rfl) rfl
theorem w_833 : Cond.selects RX1 yX1_ringFor yX1_ringFor ∈ TB := tk_4 (List.mem_of_getElem? (i := 14) rfl) rfl
theorem w_834 : Cond.code yX1_ringFor cX1_ringFor 2 (some .boolean) ∈ TB := tk_4 (List.mem_of_getElem? (i := 15) rfl) rfl
theorem w_835 : Cond.methodLink RX1 26 yX9_areRings ∈ TB := tk_4 (List.mem_of_getElem? (i := 16) rfl) rfl
theorem w_836 : Cond.instanceMethod yX9_areRings ∈ TB := tk_4 (List.mem_of_getElem? (i := 17) rfl) rfl
theorem w_837 : Cond.selects RX9 yX9_areRings yX9_areRings ∈ TB := tk_4 (List.mem_of_getElem? (i := 18) rfl) rfl
theorem w_838 : Cond.code yX9_areRings cX9_areRings 2 (some .boolean) ∈ TB := tk_4 (List.mem_of_getElem? (i := 19) rfl) rfl
theorem w_839 : Cond.methodLink RX9 57 yX9_allRings ∈ TB := tk_4 (List.mem_of_getElem? (i := 20) rfl) rfl
theorem w_840 : Cond.instanceMethod yX9_allRings ∈ TB := tk_4 (List.mem_of_getElem? (i := 21) rfl) rfl
theorem w_841 : Cond.selects RX9 yX9_allRings yX9_allRings ∈ TB := tk_4 (List.mem_of_getElem? (i := 22) rfl) rfl
theorem w_842 : Cond.code yX9_allRings cX9_allRings 1 (some .int) ∈ TB := tk_4 (List.mem_of_getElem? (i := 23) rfl) rfl
theorem w_843 : Cond.methodLink RX1 32 yX9_markStep ∈ TB := tk_4 (List.mem_of_getElem? (i := 24) rfl) rfl
theorem w_844 : Cond.instanceMethod yX9_markStep ∈ TB := tk_4 (List.mem_of_getElem? (i := 25) rfl) rfl
theorem w_845 : Cond.selects RX9 yX9_markStep yX9_markStep ∈ TB := tk_4 (List.mem_of_getElem? (i := 26) rfl) rfl
theorem w_846 : Cond.code yX9_markStep cX9_markStep 1 none ∈ TB := tk_4 (List.mem_of_getElem? (i := 27) rfl) rfl
theorem w_847 : Cond.methodLink RX9 74 yX3_become ∈ TB := tk_4 (List.mem_of_getElem? (i := 28) rfl) rfl
theorem w_848 : Cond.instanceMethod yX3_become ∈ TB := tk_4 (List.mem_of_getElem? (i := 29) rfl) rfl
theorem w_849 : Cond.selects RX3 yX3_become yX3_become ∈ TB := tk_4 (List.mem_of_getElem? (i := 30) rfl) rfl
theorem w_850 : Cond.code yX3_become cX3_become 2 none ∈ TB := tk_4 (List.mem_of_getElem? (i := 31) rfl) rfl
theorem w_851 : Cond.methodLink RX3 41 arraycopyName ∈ TB := tk_4 (List.mem_of_getElem? (i := 32) rfl) rfl
theorem w_852 : Cond.static arraycopyName ∈ TB := tk_4 (List.mem_of_getElem? (i := 33) rfl) rfl
theorem w_853 : Cond.native arraycopyName ∈ TB := tk_4 (List.mem_of_getElem? (i := 34) rfl) rfl
theorem w_858 : Cond.methodLink RX10 127 yX1_putOff ∈ TB := tk_4 (List.mem_of_getElem? (i := 39) rfl) rfl
theorem w_859 : Cond.instanceMethod yX1_putOff ∈ TB := tk_4 (List.mem_of_getElem? (i := 40) rfl) rfl
theorem w_860 : Cond.selects RX1 yX1_putOff yX1_putOff ∈ TB := tk_4 (List.mem_of_getElem? (i := 41) rfl) rfl
theorem w_861 : Cond.code yX1_putOff cX1_putOff 3 (some .boolean) ∈ TB := tk_4 (List.mem_of_getElem? (i := 42) rfl) rfl
theorem w_862 : Cond.methodLink RX1 42 yX9_isPerson ∈ TB := tk_4 (List.mem_of_getElem? (i := 43) rfl) rfl
theorem w_863 : Cond.instanceMethod yX9_isPerson ∈ TB := tk_4 (List.mem_of_getElem? (i := 44) rfl) rfl
theorem w_864 : Cond.selects RX9 yX9_isPerson yX9_isPerson ∈ TB := tk_4 (List.mem_of_getElem? (i := 45) rfl) rfl
theorem w_865 : Cond.code yX9_isPerson cX9_isPerson 2 (some .boolean) ∈ TB := tk_4 (List.mem_of_getElem? (i := 46) rfl) rfl
theorem w_870 : Cond.methodLink RX10 131 yX1_goToBed ∈ TB := tk_4 (List.mem_of_getElem? (i := 51) rfl) rfl
theorem w_871 : Cond.instanceMethod yX1_goToBed ∈ TB := tk_4 (List.mem_of_getElem? (i := 52) rfl) rfl
theorem w_872 : Cond.selects RX1 yX1_goToBed yX1_goToBed ∈ TB := tk_4 (List.mem_of_getElem? (i := 53) rfl) rfl
theorem w_873 : Cond.code yX1_goToBed cX1_goToBed 2 (some .boolean) ∈ TB := tk_4 (List.mem_of_getElem? (i := 54) rfl) rfl
theorem w_878 : Cond.methodLink RX10 134 yX1_getUp ∈ TB := tk_4 (List.mem_of_getElem? (i := 59) rfl) rfl
theorem w_879 : Cond.instanceMethod yX1_getUp ∈ TB := tk_4 (List.mem_of_getElem? (i := 60) rfl) rfl
theorem w_880 : Cond.selects RX1 yX1_getUp yX1_getUp ∈ TB := tk_4 (List.mem_of_getElem? (i := 61) rfl) rfl
theorem w_881 : Cond.code yX1_getUp cX1_getUp 2 (some .boolean) ∈ TB := tk_4 (List.mem_of_getElem? (i := 62) rfl) rfl
theorem w_886 : Cond.methodLink RX10 137 yX1_daysThatCanPass ∈ TB := tk_4 (List.mem_of_getElem? (i := 67) rfl) rfl
theorem w_887 : Cond.instanceMethod yX1_daysThatCanPass ∈ TB := tk_4 (List.mem_of_getElem? (i := 68) rfl) rfl
theorem w_888 : Cond.selects RX1 yX1_daysThatCanPass yX1_daysThatCanPass ∈ TB := tk_4 (List.mem_of_getElem? (i := 69) rfl) rfl
theorem w_889 : Cond.code yX1_daysThatCanPass cX1_daysThatCanPass 1 (some .int) ∈ TB := tk_4 (List.mem_of_getElem? (i := 70) rfl) rfl
theorem w_890 : Cond.methodLink RX10 141 yX1_passDays ∈ TB := tk_4 (List.mem_of_getElem? (i := 71) rfl) rfl
theorem w_891 : Cond.instanceMethod yX1_passDays ∈ TB := tk_4 (List.mem_of_getElem? (i := 72) rfl) rfl
theorem w_892 : Cond.selects RX1 yX1_passDays yX1_passDays ∈ TB := tk_4 (List.mem_of_getElem? (i := 73) rfl) rfl
theorem w_893 : Cond.code yX1_passDays cX1_passDays 4 (some .int) ∈ TB := tk_4 (List.mem_of_getElem? (i := 74) rfl) rfl
theorem w_894 : Cond.methodLink RX1 55 yX1_passOne ∈ TB := tk_4 (List.mem_of_getElem? (i := 75) rfl) rfl
theorem w_896 : Cond.instanceMethod yX1_passOne ∈ TB := tk_4 (List.mem_of_getElem? (i := 77) rfl) rfl
theorem w_897 : Cond.code yX1_passOne cX1_passOne 3 (some .int) ∈ TB := tk_4 (List.mem_of_getElem? (i := 78) rfl) rfl
theorem w_898 : Cond.methodLink RX1 65 yX3_stir ∈ TB := tk_4 (List.mem_of_getElem? (i := 79) rfl) rfl
theorem w_899 : Cond.instanceMethod yX3_stir ∈ TB := tk_4 (List.mem_of_getElem? (i := 80) rfl) rfl
theorem w_900 : Cond.selects RX3 yX3_stir yX3_stir ∈ TB := tk_4 (List.mem_of_getElem? (i := 81) rfl) rfl
theorem w_901 : Cond.code yX3_stir cX3_stir 1 none ∈ TB := tk_4 (List.mem_of_getElem? (i := 82) rfl) rfl
theorem w_902 : Cond.methodLink RX1 68 yX4_asIn ∈ TB := tk_4 (List.mem_of_getElem? (i := 83) rfl) rfl
theorem w_903 : Cond.instanceMethod yX4_asIn ∈ TB := tk_4 (List.mem_of_getElem? (i := 84) rfl) rfl
theorem w_904 : Cond.selects RX4 yX4_asIn yX4_asIn ∈ TB := tk_4 (List.mem_of_getElem? (i := 85) rfl) rfl
theorem w_905 : Cond.code yX4_asIn cX4_asIn 2 none ∈ TB := tk_4 (List.mem_of_getElem? (i := 86) rfl) rfl
theorem w_906 : Cond.methodLink RX4 51 yX4_textOf ∈ TB := tk_4 (List.mem_of_getElem? (i := 87) rfl) rfl
theorem w_907 : Cond.instanceMethod yX4_textOf ∈ TB := tk_4 (List.mem_of_getElem? (i := 88) rfl) rfl
theorem w_908 : Cond.selects RX4 yX4_textOf yX4_textOf ∈ TB := tk_4 (List.mem_of_getElem? (i := 89) rfl) rfl
theorem w_909 : Cond.code yX4_textOf cX4_textOf 2 (some (.object "TollsForLate$Text")) ∈ TB := tk_4 (List.mem_of_getElem? (i := 90) rfl) rfl
theorem w_910 : Cond.methodLink RX1 74 yX4_lateBy ∈ TB := tk_4 (List.mem_of_getElem? (i := 91) rfl) rfl
theorem w_911 : Cond.instanceMethod yX4_lateBy ∈ TB := tk_4 (List.mem_of_getElem? (i := 92) rfl) rfl
theorem w_912 : Cond.selects RX4 yX4_lateBy yX4_lateBy ∈ TB := tk_4 (List.mem_of_getElem? (i := 93) rfl) rfl
theorem w_913 : Cond.code yX4_lateBy cX4_lateBy 6 (some .int) ∈ TB := tk_4 (List.mem_of_getElem? (i := 94) rfl) rfl
theorem w_914 : Cond.methodLink RX4 96 yX4_runningBy ∈ TB := tk_4 (List.mem_of_getElem? (i := 95) rfl) rfl
theorem w_915 : Cond.instanceMethod yX4_runningBy ∈ TB := tk_4 (List.mem_of_getElem? (i := 96) rfl) rfl
theorem w_916 : Cond.selects RX4 yX4_runningBy yX4_runningBy ∈ TB := tk_4 (List.mem_of_getElem? (i := 97) rfl) rfl
theorem w_917 : Cond.code yX4_runningBy cX4_runningBy 6 (some .int) ∈ TB := tk_4 (List.mem_of_getElem? (i := 98) rfl) rfl
theorem w_918 : Cond.methodLink RX4 76 yJ6_bitCount_0f7a4 ∈ TB := tk_4 (List.mem_of_getElem? (i := 99) rfl) rfl
theorem w_919 : Cond.static yJ6_bitCount_0f7a4 ∈ TB := tk_4 (List.mem_of_getElem? (i := 100) rfl) rfl
theorem w_920 : Cond.code yJ6_bitCount_0f7a4 cJ6_bitCount_0f7a4 1 (some .int) ∈ TB := tk_4 (List.mem_of_getElem? (i := 101) rfl) rfl
theorem w_921 : Cond.constant RJ6 265 (1431655765) ∈ TB := tk_4 (List.mem_of_getElem? (i := 102) rfl) rfl
theorem w_922 : Cond.constant RJ6 266 (858993459) ∈ TB := tk_4 (List.mem_of_getElem? (i := 103) rfl) rfl
theorem w_923 : Cond.constant RJ6 267 (252645135) ∈ TB := tk_4 (List.mem_of_getElem? (i := 104) rfl) rfl
theorem w_924 : Cond.methodLink RX4 85 yX4_isUp ∈ TB := tk_4 (List.mem_of_getElem? (i := 105) rfl) rfl
theorem w_925 : Cond.instanceMethod yX4_isUp ∈ TB := tk_4 (List.mem_of_getElem? (i := 106) rfl) rfl
theorem w_926 : Cond.selects RX4 yX4_isUp yX4_isUp ∈ TB := tk_4 (List.mem_of_getElem? (i := 107) rfl) rfl
theorem w_927 : Cond.code yX4_isUp cX4_isUp 2 (some .boolean) ∈ TB := tk_4 (List.mem_of_getElem? (i := 108) rfl) rfl
theorem w_928 : Cond.methodLink RX4 92 yX4_worked ∈ TB := tk_4 (List.mem_of_getElem? (i := 109) rfl) rfl
theorem w_930 : Cond.instanceMethod yX4_worked ∈ TB := tk_4 (List.mem_of_getElem? (i := 111) rfl) rfl
theorem w_931 : Cond.code yX4_worked cX4_worked 10 (some .int) ∈ TB := tk_4 (List.mem_of_getElem? (i := 112) rfl) rfl
theorem w_933 : Cond.methodLink RX4 151 yX4_named ∈ TB := tk_4 (List.mem_of_getElem? (i := 114) rfl) rfl
theorem w_935 : Cond.instanceMethod yX4_named ∈ TB := tk_4 (List.mem_of_getElem? (i := 116) rfl) rfl
theorem w_936 : Cond.code yX4_named cX4_named 2 (some .int) ∈ TB := tk_4 (List.mem_of_getElem? (i := 117) rfl) rfl
theorem w_937 : Cond.methodLink RX4 139 Lib.Math.max.name ∈ TB := tk_4 (List.mem_of_getElem? (i := 118) rfl) rfl
theorem w_938 : Cond.methodLink RX4 154 yX4_turned ∈ TB := tk_4 (List.mem_of_getElem? (i := 119) rfl) rfl
theorem w_940 : Cond.instanceMethod yX4_turned ∈ TB := tk_4 (List.mem_of_getElem? (i := 121) rfl) rfl
theorem w_941 : Cond.code yX4_turned cX4_turned 3 (some .int) ∈ TB := tk_4 (List.mem_of_getElem? (i := 122) rfl) rfl
theorem w_942 : Cond.methodLink RX4 157 yX4_compared ∈ TB := tk_4 (List.mem_of_getElem? (i := 123) rfl) rfl
theorem w_943 : Cond.static yX4_compared ∈ TB := tk_4 (List.mem_of_getElem? (i := 124) rfl) rfl
theorem w_944 : Cond.code yX4_compared cX4_compared 3 (some .int) ∈ TB := tk_4 (List.mem_of_getElem? (i := 125) rfl) rfl
theorem w_945 : Cond.methodLink RX4 160 yX4_joined ∈ TB := tk_4 (List.mem_of_getElem? (i := 126) rfl) rfl
theorem w_946 : Cond.static yX4_joined ∈ TB := tk_4 (List.mem_of_getElem? (i := 127) rfl) rfl
theorem w_947 : Cond.code yX4_joined cX4_joined 5 (some .int) ∈ TB := tk_4 (List.mem_of_getElem? (i := 128) rfl) rfl
theorem w_948 : Cond.constantLong RX4 163 (1000000) ∈ TB := tk_4 (List.mem_of_getElem? (i := 129) rfl) rfl
theorem w_949 : Cond.constant RX4 165 (1000000) ∈ TB := tk_4 (List.mem_of_getElem? (i := 130) rfl) rfl
theorem w_950 : Cond.constantLong RX4 166 (-1000000) ∈ TB := tk_4 (List.mem_of_getElem? (i := 131) rfl) rfl
theorem w_951 : Cond.constant RX4 168 (-1000000) ∈ TB := tk_4 (List.mem_of_getElem? (i := 132) rfl) rfl
theorem w_952 : Cond.methodLink RX4 99 yX4_jamOf ∈ TB := tk_4 (List.mem_of_getElem? (i := 133) rfl) rfl
theorem w_953 : Cond.instanceMethod yX4_jamOf ∈ TB := tk_4 (List.mem_of_getElem? (i := 134) rfl) rfl
theorem w_954 : Cond.selects RX4 yX4_jamOf yX4_jamOf ∈ TB := tk_4 (List.mem_of_getElem? (i := 135) rfl) rfl
theorem w_955 : Cond.code yX4_jamOf cX4_jamOf 3 (some .int) ∈ TB := tk_4 (List.mem_of_getElem? (i := 136) rfl) rfl
theorem w_956 : Cond.methodLink RX4 103 yX4_takesOf ∈ TB := tk_4 (List.mem_of_getElem? (i := 137) rfl) rfl
theorem w_957 : Cond.instanceMethod yX4_takesOf ∈ TB := tk_4 (List.mem_of_getElem? (i := 138) rfl) rfl
theorem w_958 : Cond.selects RX4 yX4_takesOf yX4_takesOf ∈ TB := tk_4 (List.mem_of_getElem? (i := 139) rfl) rfl
theorem w_959 : Cond.code yX4_takesOf cX4_takesOf 6 (some .int) ∈ TB := tk_4 (List.mem_of_getElem? (i := 140) rfl) rfl
theorem w_960 : Cond.methodLink RX4 134 Lib.Math.min.name ∈ TB := tk_4 (List.mem_of_getElem? (i := 141) rfl) rfl
theorem w_961 : Cond.methodLink RX1 78 yX3_endDay ∈ TB := tk_4 (List.mem_of_getElem? (i := 142) rfl) rfl
theorem w_962 : Cond.instanceMethod yX3_endDay ∈ TB := tk_4 (List.mem_of_getElem? (i := 143) rfl) rfl
theorem w_963 : Cond.selects RX3 yX3_endDay yX3_endDay ∈ TB := tk_4 (List.mem_of_getElem? (i := 144) rfl) rfl
theorem w_964 : Cond.code yX3_endDay cX3_endDay 3 none ∈ TB := tk_4 (List.mem_of_getElem? (i := 145) rfl) rfl
theorem w_965 : Cond.methodLink RX3 47 yX3_write ∈ TB := tk_4 (List.mem_of_getElem? (i := 146) rfl) rfl
theorem w_967 : Cond.instanceMethod yX3_write ∈ TB := tk_4 (List.mem_of_getElem? (i := 148) rfl) rfl
theorem w_968 : Cond.code yX3_write cX3_write 2 none ∈ TB := tk_4 (List.mem_of_getElem? (i := 149) rfl) rfl
theorem w_969 : Cond.methodLink RX1 82 yJ6_bitCount_0f7a4 ∈ TB := tk_4 (List.mem_of_getElem? (i := 150) rfl) rfl
theorem w_974 : Cond.methodLink RX10 145 yX4_textOf ∈ TB := tk_4 (List.mem_of_getElem? (i := 155) rfl) rfl
theorem w_975 : Cond.methodLink RX10 152 yX1_playClause ∈ TB := tk_4 (List.mem_of_getElem? (i := 156) rfl) rfl
theorem w_976 : Cond.instanceMethod yX1_playClause ∈ TB := tk_4 (List.mem_of_getElem? (i := 157) rfl) rfl
theorem w_977 : Cond.selects RX1 yX1_playClause yX1_playClause ∈ TB := tk_4 (List.mem_of_getElem? (i := 158) rfl) rfl
theorem w_978 : Cond.code yX1_playClause cX1_playClause 6 (some .boolean) ∈ TB := tk_4 (List.mem_of_getElem? (i := 159) rfl) rfl
theorem w_979 : Cond.methodLink RX1 90 yX7_numberOf ∈ TB := tk_4 (List.mem_of_getElem? (i := 160) rfl) rfl
theorem w_980 : Cond.instanceMethod yX7_numberOf ∈ TB := tk_4 (List.mem_of_getElem? (i := 161) rfl) rfl
theorem w_981 : Cond.selects RX7 yX7_numberOf yX7_numberOf ∈ TB := tk_4 (List.mem_of_getElem? (i := 162) rfl) rfl
theorem w_982 : Cond.code yX7_numberOf cX7_numberOf 4 (some .int) ∈ TB := tk_4 (List.mem_of_getElem? (i := 163) rfl) rfl
theorem w_983 : Cond.methodLink RX1 96 yX9_tell ∈ TB := tk_4 (List.mem_of_getElem? (i := 164) rfl) rfl
theorem w_984 : Cond.methodLink RX1 100 yX1_ringFor ∈ TB := tk_4 (List.mem_of_getElem? (i := 165) rfl) rfl
theorem w_985 : Cond.methodLink RX1 103 yX1_putOff ∈ TB := tk_4 (List.mem_of_getElem? (i := 166) rfl) rfl
theorem w_986 : Cond.methodLink RX1 107 yX1_goToBed ∈ TB := tk_4 (List.mem_of_getElem? (i := 167) rfl) rfl
theorem w_987 : Cond.methodLink RX1 110 yX1_getUp ∈ TB := tk_4 (List.mem_of_getElem? (i := 168) rfl) rfl
theorem w_988 : Cond.methodLink RX1 113 yX1_daysThatCanPass ∈ TB := tk_4 (List.mem_of_getElem? (i := 169) rfl) rfl
theorem w_989 : Cond.methodLink RX1 117 yX1_passDays ∈ TB := tk_4 (List.mem_of_getElem? (i := 170) rfl) rfl
theorem w_994 : Cond.methodLink RX10 156 yX1_draw ∈ TB := tk_4 (List.mem_of_getElem? (i := 175) rfl) rfl
theorem w_995 : Cond.instanceMethod yX1_draw ∈ TB := tk_4 (List.mem_of_getElem? (i := 176) rfl) rfl
theorem w_996 : Cond.selects RX1 yX1_draw yX1_draw ∈ TB := tk_4 (List.mem_of_getElem? (i := 177) rfl) rfl
theorem w_997 : Cond.code yX1_draw cX1_draw 5 none ∈ TB := tk_4 (List.mem_of_getElem? (i := 178) rfl) rfl
theorem w_998 : Cond.methodLink RX1 120 yX1_drawOne ∈ TB := tk_4 (List.mem_of_getElem? (i := 179) rfl) rfl
theorem w_1000 : Cond.instanceMethod yX1_drawOne ∈ TB := tk_4 (List.mem_of_getElem? (i := 181) rfl) rfl
theorem w_1001 : Cond.code yX1_drawOne cX1_drawOne 5 none ∈ TB := tk_4 (List.mem_of_getElem? (i := 182) rfl) rfl
theorem w_1006 : Cond.methodLink RX10 169 yX9_takeBack ∈ TB := tk_4 (List.mem_of_getElem? (i := 187) rfl) rfl
theorem w_1007 : Cond.instanceMethod yX9_takeBack ∈ TB := tk_4 (List.mem_of_getElem? (i := 188) rfl) rfl
theorem w_1008 : Cond.selects RX9 yX9_takeBack yX9_takeBack ∈ TB := tk_4 (List.mem_of_getElem? (i := 189) rfl) rfl
theorem w_1009 : Cond.code yX9_takeBack cX9_takeBack 1 (some .boolean) ∈ TB := tk_4 (List.mem_of_getElem? (i := 190) rfl) rfl
theorem w_1014 : Cond.methodLink RX10 175 yX9_isPerson ∈ TB := tk_4 (List.mem_of_getElem? (i := 195) rfl) rfl
theorem w_1015 : Cond.methodLink RX10 196 yX10_runningNow ∈ TB := tk_4 (List.mem_of_getElem? (i := 196) rfl) rfl
theorem w_1017 : Cond.instanceMethod yX10_runningNow ∈ TB := tk_4 (List.mem_of_getElem? (i := 198) rfl) rfl
theorem w_1018 : Cond.code yX10_runningNow cX10_runningNow 1 (some .int) ∈ TB := tk_4 (List.mem_of_getElem? (i := 199) rfl) rfl
theorem w_1019 : Cond.methodLink RX10 227 yX4_asNow ∈ TB := tk_4 (List.mem_of_getElem? (i := 200) rfl) rfl
theorem w_1020 : Cond.instanceMethod yX4_asNow ∈ TB := tk_4 (List.mem_of_getElem? (i := 201) rfl) rfl
theorem w_1021 : Cond.selects RX4 yX4_asNow yX4_asNow ∈ TB := tk_4 (List.mem_of_getElem? (i := 202) rfl) rfl
theorem w_1022 : Cond.code yX4_asNow cX4_asNow 1 none ∈ TB := tk_4 (List.mem_of_getElem? (i := 203) rfl) rfl
theorem w_1023 : Cond.methodLink RX4 29 yX4_asIn ∈ TB := tk_4 (List.mem_of_getElem? (i := 204) rfl) rfl
theorem w_1024 : Cond.methodLink RX10 230 yX4_runningBy ∈ TB := tk_4 (List.mem_of_getElem? (i := 205) rfl) rfl
theorem w_1025 : Cond.methodLink RX10 199 yX10_takesNow ∈ TB := tk_4 (List.mem_of_getElem? (i := 206) rfl) rfl
theorem w_1027 : Cond.instanceMethod yX10_takesNow ∈ TB := tk_4 (List.mem_of_getElem? (i := 208) rfl) rfl
theorem w_1028 : Cond.code yX10_takesNow cX10_takesNow 2 (some .int) ∈ TB := tk_4 (List.mem_of_getElem? (i := 209) rfl) rfl
theorem w_1029 : Cond.methodLink RX10 287 yX4_takesAmong ∈ TB := tk_4 (List.mem_of_getElem? (i := 210) rfl) rfl
theorem w_1030 : Cond.instanceMethod yX4_takesAmong ∈ TB := tk_4 (List.mem_of_getElem? (i := 211) rfl) rfl
theorem w_1031 : Cond.selects RX4 yX4_takesAmong yX4_takesAmong ∈ TB := tk_4 (List.mem_of_getElem? (i := 212) rfl) rfl
theorem w_1032 : Cond.code yX4_takesAmong cX4_takesAmong 3 (some .int) ∈ TB := tk_4 (List.mem_of_getElem? (i := 213) rfl) rfl
theorem w_1041 : Cond.methodLink RX10 214 yX3_written ∈ TB := tk_4 (List.mem_of_getElem? (i := 222) rfl) rfl
theorem w_1042 : Cond.instanceMethod yX3_written ∈ TB := tk_4 (List.mem_of_getElem? (i := 223) rfl) rfl
theorem w_1043 : Cond.selects RX3 yX3_written yX3_written ∈ TB := tk_4 (List.mem_of_getElem? (i := 224) rfl) rfl
theorem w_1044 : Cond.code yX3_written cX3_written 3 (some .int) ∈ TB := tk_4 (List.mem_of_getElem? (i := 225) rfl) rfl
theorem w_1045 : Cond.constant RX3 51 (65535) ∈ TB := tk_4 (List.mem_of_getElem? (i := 226) rfl) rfl
theorem w_1050 : Cond.methodLink RX10 218 yX1_foretell ∈ TB := tk_4 (List.mem_of_getElem? (i := 231) rfl) rfl
theorem w_1051 : Cond.instanceMethod yX1_foretell ∈ TB := tk_4 (List.mem_of_getElem? (i := 232) rfl) rfl
theorem w_1052 : Cond.selects RX1 yX1_foretell yX1_foretell ∈ TB := tk_4 (List.mem_of_getElem? (i := 233) rfl) rfl
theorem w_1053 : Cond.code yX1_foretell cX1_foretell 5 (some .int) ∈ TB := tk_4 (List.mem_of_getElem? (i := 234) rfl) rfl
theorem w_1054 : Cond.methodLink RX1 87 yX3_become ∈ TB := tk_4 (List.mem_of_getElem? (i := 235) rfl) rfl
theorem w_1059 : Cond.methodLink RX10 221 yX9_areRings ∈ TB := tk_5 (List.mem_of_getElem? (i := 0) rfl) rfl
theorem w_1060 : Cond.methodLink RX10 224 yX2_next ∈ TB := tk_5 (List.mem_of_getElem? (i := 1) rfl) rfl
theorem w_1061 : Cond.instanceMethod yX2_next ∈ TB := tk_5 (List.mem_of_getElem? (i := 2) rfl) rfl
theorem w_1062 : Cond.selects RX2 yX2_next yX2_next ∈ TB := tk_5 (List.mem_of_getElem? (i := 3) rfl) rfl
theorem w_1063 : Cond.code yX2_next cX2_next 2 (some .int) ∈ TB := tk_5 (List.mem_of_getElem? (i := 4) rfl) rfl
theorem w_1064 : Cond.methodLink RX2 33 yX4_asNow ∈ TB := tk_5 (List.mem_of_getElem? (i := 5) rfl) rfl
theorem w_1065 : Cond.methodLink RX2 38 yX4_lateBy ∈ TB := tk_5 (List.mem_of_getElem? (i := 6) rfl) rfl
theorem w_1074 : Cond.methodLink RX10 233 yX2_settledCount ∈ TB := tk_5 (List.mem_of_getElem? (i := 15) rfl) rfl
theorem w_1075 : Cond.instanceMethod yX2_settledCount ∈ TB := tk_5 (List.mem_of_getElem? (i := 16) rfl) rfl
theorem w_1076 : Cond.selects RX2 yX2_settledCount yX2_settledCount ∈ TB := tk_5 (List.mem_of_getElem? (i := 17) rfl) rfl
theorem w_1077 : Cond.code yX2_settledCount cX2_settledCount 3 (some .int) ∈ TB := tk_5 (List.mem_of_getElem? (i := 18) rfl) rfl
theorem w_1078 : Cond.methodLink RX2 45 yX9_allRings ∈ TB := tk_5 (List.mem_of_getElem? (i := 19) rfl) rfl
theorem w_1079 : Cond.methodLink RX2 51 yX2_isSettled ∈ TB := tk_5 (List.mem_of_getElem? (i := 20) rfl) rfl
theorem w_1080 : Cond.instanceMethod yX2_isSettled ∈ TB := tk_5 (List.mem_of_getElem? (i := 21) rfl) rfl
theorem w_1081 : Cond.selects RX2 yX2_isSettled yX2_isSettled ∈ TB := tk_5 (List.mem_of_getElem? (i := 22) rfl) rfl
theorem w_1082 : Cond.code yX2_isSettled cX2_isSettled 2 (some .boolean) ∈ TB := tk_5 (List.mem_of_getElem? (i := 23) rfl) rfl
theorem w_1083 : Cond.methodLink RX2 42 yX2_next ∈ TB := tk_5 (List.mem_of_getElem? (i := 24) rfl) rfl
theorem w_1084 : Cond.methodLink RX10 236 yX2_settledAt ∈ TB := tk_5 (List.mem_of_getElem? (i := 25) rfl) rfl
theorem w_1085 : Cond.instanceMethod yX2_settledAt ∈ TB := tk_5 (List.mem_of_getElem? (i := 26) rfl) rfl
theorem w_1086 : Cond.selects RX2 yX2_settledAt yX2_settledAt ∈ TB := tk_5 (List.mem_of_getElem? (i := 27) rfl) rfl
theorem w_1087 : Cond.code yX2_settledAt cX2_settledAt 4 (some .int) ∈ TB := tk_5 (List.mem_of_getElem? (i := 28) rfl) rfl
theorem w_1092 : Cond.methodLink RX10 239 yX2_settledForFewest ∈ TB := tk_5 (List.mem_of_getElem? (i := 33) rfl) rfl
theorem w_1093 : Cond.instanceMethod yX2_settledForFewest ∈ TB := tk_5 (List.mem_of_getElem? (i := 34) rfl) rfl
theorem w_1094 : Cond.selects RX2 yX2_settledForFewest yX2_settledForFewest ∈ TB := tk_5 (List.mem_of_getElem? (i := 35) rfl) rfl
theorem w_1095 : Cond.code yX2_settledForFewest cX2_settledForFewest 4 (some .int) ∈ TB := tk_5 (List.mem_of_getElem? (i := 36) rfl) rfl
theorem w_1096 : Cond.methodLink RX2 55 yX2_isBetter ∈ TB := tk_5 (List.mem_of_getElem? (i := 37) rfl) rfl
theorem w_1097 : Cond.static yX2_isBetter ∈ TB := tk_5 (List.mem_of_getElem? (i := 38) rfl) rfl
theorem w_1098 : Cond.code yX2_isBetter cX2_isBetter 5 (some .boolean) ∈ TB := tk_5 (List.mem_of_getElem? (i := 39) rfl) rfl
theorem w_1099 : Cond.methodLink RX2 59 yJ6_bitCount_0f7a4 ∈ TB := tk_5 (List.mem_of_getElem? (i := 40) rfl) rfl
theorem w_1104 : Cond.methodLink RX10 243 yX2_tailOf ∈ TB := tk_5 (List.mem_of_getElem? (i := 45) rfl) rfl
theorem w_1105 : Cond.instanceMethod yX2_tailOf ∈ TB := tk_5 (List.mem_of_getElem? (i := 46) rfl) rfl
theorem w_1106 : Cond.selects RX2 yX2_tailOf yX2_tailOf ∈ TB := tk_5 (List.mem_of_getElem? (i := 47) rfl) rfl
theorem w_1107 : Cond.code yX2_tailOf cX2_tailOf 2 (some .int) ∈ TB := tk_5 (List.mem_of_getElem? (i := 48) rfl) rfl
theorem w_1108 : Cond.methodLink RX2 67 yX2_walkFrom ∈ TB := tk_5 (List.mem_of_getElem? (i := 49) rfl) rfl
theorem w_1110 : Cond.instanceMethod yX2_walkFrom ∈ TB := tk_5 (List.mem_of_getElem? (i := 51) rfl) rfl
theorem w_1111 : Cond.code yX2_walkFrom cX2_walkFrom 4 (some .int) ∈ TB := tk_5 (List.mem_of_getElem? (i := 52) rfl) rfl
theorem w_1112 : Cond.methodLink RX2 64 yX2_clearMarks ∈ TB := tk_5 (List.mem_of_getElem? (i := 53) rfl) rfl
theorem w_1114 : Cond.instanceMethod yX2_clearMarks ∈ TB := tk_5 (List.mem_of_getElem? (i := 55) rfl) rfl
theorem w_1115 : Cond.code yX2_clearMarks cX2_clearMarks 2 none ∈ TB := tk_5 (List.mem_of_getElem? (i := 56) rfl) rfl
theorem w_1120 : Cond.methodLink RX10 246 yX2_roundOf ∈ TB := tk_5 (List.mem_of_getElem? (i := 61) rfl) rfl
theorem w_1121 : Cond.instanceMethod yX2_roundOf ∈ TB := tk_5 (List.mem_of_getElem? (i := 62) rfl) rfl
theorem w_1122 : Cond.selects RX2 yX2_roundOf yX2_roundOf ∈ TB := tk_5 (List.mem_of_getElem? (i := 63) rfl) rfl
theorem w_1123 : Cond.code yX2_roundOf cX2_roundOf 5 (some .int) ∈ TB := tk_5 (List.mem_of_getElem? (i := 64) rfl) rfl
theorem w_1128 : Cond.methodLink RX10 249 yX2_roundCount ∈ TB := tk_5 (List.mem_of_getElem? (i := 69) rfl) rfl
theorem w_1129 : Cond.instanceMethod yX2_roundCount ∈ TB := tk_5 (List.mem_of_getElem? (i := 70) rfl) rfl
theorem w_1130 : Cond.selects RX2 yX2_roundCount yX2_roundCount ∈ TB := tk_5 (List.mem_of_getElem? (i := 71) rfl) rfl
theorem w_1131 : Cond.code yX2_roundCount cX2_roundCount 5 (some .int) ∈ TB := tk_5 (List.mem_of_getElem? (i := 72) rfl) rfl
theorem w_1136 : Cond.methodLink RX10 252 yX2_basinOf ∈ TB := tk_5 (List.mem_of_getElem? (i := 77) rfl) rfl
theorem w_1137 : Cond.instanceMethod yX2_basinOf ∈ TB := tk_5 (List.mem_of_getElem? (i := 78) rfl) rfl
theorem w_1138 : Cond.selects RX2 yX2_basinOf yX2_basinOf ∈ TB := tk_5 (List.mem_of_getElem? (i := 79) rfl) rfl
theorem w_1139 : Cond.code yX2_basinOf cX2_basinOf 6 (some .int) ∈ TB := tk_5 (List.mem_of_getElem? (i := 80) rfl) rfl
theorem w_1144 : Cond.methodLink RX10 255 yX2_neverLedTo ∈ TB := tk_5 (List.mem_of_getElem? (i := 85) rfl) rfl
theorem w_1145 : Cond.instanceMethod yX2_neverLedTo ∈ TB := tk_5 (List.mem_of_getElem? (i := 86) rfl) rfl
theorem w_1146 : Cond.selects RX2 yX2_neverLedTo yX2_neverLedTo ∈ TB := tk_5 (List.mem_of_getElem? (i := 87) rfl) rfl
theorem w_1147 : Cond.code yX2_neverLedTo cX2_neverLedTo 4 (some .int) ∈ TB := tk_5 (List.mem_of_getElem? (i := 88) rfl) rfl
theorem w_1152 : Cond.methodLink RX10 258 yX2_behind ∈ TB := tk_5 (List.mem_of_getElem? (i := 93) rfl) rfl
theorem w_1153 : Cond.instanceMethod yX2_behind ∈ TB := tk_5 (List.mem_of_getElem? (i := 94) rfl) rfl
theorem w_1154 : Cond.selects RX2 yX2_behind yX2_behind ∈ TB := tk_5 (List.mem_of_getElem? (i := 95) rfl) rfl
theorem w_1155 : Cond.code yX2_behind cX2_behind 5 (some .int) ∈ TB := tk_5 (List.mem_of_getElem? (i := 96) rfl) rfl
theorem w_1160 : Cond.methodLink RX10 261 yX2_timesTill ∈ TB := tk_5 (List.mem_of_getElem? (i := 101) rfl) rfl
theorem w_1161 : Cond.instanceMethod yX2_timesTill ∈ TB := tk_5 (List.mem_of_getElem? (i := 102) rfl) rfl
theorem w_1162 : Cond.selects RX2 yX2_timesTill yX2_timesTill ∈ TB := tk_5 (List.mem_of_getElem? (i := 103) rfl) rfl
theorem w_1163 : Cond.code yX2_timesTill cX2_timesTill 5 (some .int) ∈ TB := tk_5 (List.mem_of_getElem? (i := 104) rfl) rfl
theorem w_1168 : Cond.methodLink RX10 264 yX2_timesApart ∈ TB := tk_5 (List.mem_of_getElem? (i := 109) rfl) rfl
theorem w_1169 : Cond.instanceMethod yX2_timesApart ∈ TB := tk_5 (List.mem_of_getElem? (i := 110) rfl) rfl
theorem w_1170 : Cond.selects RX2 yX2_timesApart yX2_timesApart ∈ TB := tk_5 (List.mem_of_getElem? (i := 111) rfl) rfl
theorem w_1171 : Cond.code yX2_timesApart cX2_timesApart 6 (some .int) ∈ TB := tk_5 (List.mem_of_getElem? (i := 112) rfl) rfl
theorem w_1176 : Cond.methodLink RX10 267 yX9_allRings ∈ TB := tk_5 (List.mem_of_getElem? (i := 117) rfl) rfl
theorem w_1177 : Cond.methodLink RX10 270 yX2_isSettled ∈ TB := tk_5 (List.mem_of_getElem? (i := 118) rfl) rfl
theorem w_1178 : Cond.methodLink RX10 273 yX10_isSettledByEachWeather ∈ TB := tk_5 (List.mem_of_getElem? (i := 119) rfl) rfl
theorem w_1180 : Cond.instanceMethod yX10_isSettledByEachWeather ∈ TB := tk_5 (List.mem_of_getElem? (i := 121) rfl) rfl
theorem w_1181 : Cond.code yX10_isSettledByEachWeather cX10_isSettledByEachWeather 3 (some .boolean) ∈ TB := tk_5 (List.mem_of_getElem? (i := 122) rfl) rfl
theorem w_1182 : Cond.methodLink RX10 277 yX4_lateBy ∈ TB := tk_5 (List.mem_of_getElem? (i := 123) rfl) rfl
theorem w_1187 : Cond.methodLink RX10 280 yX2_calmest ∈ TB := tk_5 (List.mem_of_getElem? (i := 128) rfl) rfl
theorem w_1188 : Cond.instanceMethod yX2_calmest ∈ TB := tk_5 (List.mem_of_getElem? (i := 129) rfl) rfl
theorem w_1189 : Cond.selects RX2 yX2_calmest yX2_calmest ∈ TB := tk_5 (List.mem_of_getElem? (i := 130) rfl) rfl
theorem w_1190 : Cond.code yX2_calmest cX2_calmest 4 (some .int) ∈ TB := tk_5 (List.mem_of_getElem? (i := 131) rfl) rfl
theorem w_1199 : Cond.methodLink RX10 284 yX4_isUp ∈ TB := tk_5 (List.mem_of_getElem? (i := 140) rfl) rfl
theorem w_1200 : Cond.methodLink RX10 290 Lib.Math.max.name ∈ TB := tk_5 (List.mem_of_getElem? (i := 141) rfl) rfl
theorem w_1209 : Cond.methodLink RX10 295 yX10_wouldBeInTimeWalking ∈ TB := tk_5 (List.mem_of_getElem? (i := 150) rfl) rfl
theorem w_1211 : Cond.instanceMethod yX10_wouldBeInTimeWalking ∈ TB := tk_5 (List.mem_of_getElem? (i := 152) rfl) rfl
theorem w_1212 : Cond.code yX10_wouldBeInTimeWalking cX10_wouldBeInTimeWalking 3 (some .boolean) ∈ TB := tk_5 (List.mem_of_getElem? (i := 153) rfl) rfl
theorem w_1213 : Cond.methodLink RX10 305 yX4_jamOf ∈ TB := tk_5 (List.mem_of_getElem? (i := 154) rfl) rfl
theorem w_1214 : Cond.methodLink RX10 301 yX4_takesOf ∈ TB := tk_5 (List.mem_of_getElem? (i := 155) rfl) rfl
theorem w_1219 : Cond.methodLink RX10 298 yX2_isLateByAll ∈ TB := tk_5 (List.mem_of_getElem? (i := 160) rfl) rfl
theorem w_1220 : Cond.instanceMethod yX2_isLateByAll ∈ TB := tk_5 (List.mem_of_getElem? (i := 161) rfl) rfl
theorem w_1221 : Cond.selects RX2 yX2_isLateByAll yX2_isLateByAll ∈ TB := tk_5 (List.mem_of_getElem? (i := 162) rfl) rfl
theorem w_1222 : Cond.code yX2_isLateByAll cX2_isLateByAll 3 (some .boolean) ∈ TB := tk_5 (List.mem_of_getElem? (i := 163) rfl) rfl
theorem w_1227 : Cond.methodLink RX10 308 yX2_raced ∈ TB := tk_5 (List.mem_of_getElem? (i := 168) rfl) rfl
theorem w_1228 : Cond.instanceMethod yX2_raced ∈ TB := tk_5 (List.mem_of_getElem? (i := 169) rfl) rfl
theorem w_1229 : Cond.selects RX2 yX2_raced yX2_raced ∈ TB := tk_5 (List.mem_of_getElem? (i := 170) rfl) rfl
theorem w_1230 : Cond.code yX2_raced cX2_raced 6 (some .int) ∈ TB := tk_5 (List.mem_of_getElem? (i := 171) rfl) rfl
theorem w_1231 : Cond.methodLink RX2 70 Lib.Math.max.name ∈ TB := tk_5 (List.mem_of_getElem? (i := 172) rfl) rfl
theorem w_1232 : Cond.methodLink RX2 76 Lib.Math.min.name ∈ TB := tk_5 (List.mem_of_getElem? (i := 173) rfl) rfl
theorem w_1241 : Cond.methodLink RX10 321 yX0_gather ∈ TB := tk_5 (List.mem_of_getElem? (i := 182) rfl) rfl
theorem w_1242 : Cond.instanceMethod yX0_gather ∈ TB := tk_5 (List.mem_of_getElem? (i := 183) rfl) rfl
theorem w_1243 : Cond.selects RX0 yX0_gather yX0_gather ∈ TB := tk_5 (List.mem_of_getElem? (i := 184) rfl) rfl
theorem w_1244 : Cond.code yX0_gather cX0_gather 2 none ∈ TB := tk_5 (List.mem_of_getElem? (i := 185) rfl) rfl
theorem w_1245 : Cond.methodLink RX0 33 yX9_allRings ∈ TB := tk_5 (List.mem_of_getElem? (i := 186) rfl) rfl
theorem w_1246 : Cond.methodLink RX0 39 yX2_next ∈ TB := tk_5 (List.mem_of_getElem? (i := 187) rfl) rfl
theorem w_1247 : Cond.methodLink RX0 45 yX0_fitsHeard ∈ TB := tk_5 (List.mem_of_getElem? (i := 188) rfl) rfl
theorem w_1249 : Cond.instanceMethod yX0_fitsHeard ∈ TB := tk_5 (List.mem_of_getElem? (i := 190) rfl) rfl
theorem w_1250 : Cond.code yX0_fitsHeard cX0_fitsHeard 3 (some .boolean) ∈ TB := tk_5 (List.mem_of_getElem? (i := 191) rfl) rfl
theorem w_1251 : Cond.methodLink RX10 324 yX0_likely ∈ TB := tk_5 (List.mem_of_getElem? (i := 192) rfl) rfl
theorem w_1252 : Cond.instanceMethod yX0_likely ∈ TB := tk_5 (List.mem_of_getElem? (i := 193) rfl) rfl
theorem w_1253 : Cond.selects RX0 yX0_likely yX0_likely ∈ TB := tk_5 (List.mem_of_getElem? (i := 194) rfl) rfl
theorem w_1254 : Cond.code yX0_likely cX0_likely 5 (some .int) ∈ TB := tk_5 (List.mem_of_getElem? (i := 195) rfl) rfl
theorem w_1255 : Cond.methodLink RX0 58 yX0_commonOf ∈ TB := tk_5 (List.mem_of_getElem? (i := 196) rfl) rfl
theorem w_1256 : Cond.static yX0_commonOf ∈ TB := tk_5 (List.mem_of_getElem? (i := 197) rfl) rfl
theorem w_1257 : Cond.code yX0_commonOf cX0_commonOf 6 (some .int) ∈ TB := tk_5 (List.mem_of_getElem? (i := 198) rfl) rfl
theorem w_1258 : Cond.methodLink RX0 62 Lib.Math.max.name ∈ TB := tk_5 (List.mem_of_getElem? (i := 199) rfl) rfl
theorem w_1263 : Cond.methodLink RX10 328 yX0_lateInAll ∈ TB := tk_5 (List.mem_of_getElem? (i := 204) rfl) rfl
theorem w_1264 : Cond.instanceMethod yX0_lateInAll ∈ TB := tk_5 (List.mem_of_getElem? (i := 205) rfl) rfl
theorem w_1265 : Cond.selects RX0 yX0_lateInAll yX0_lateInAll ∈ TB := tk_5 (List.mem_of_getElem? (i := 206) rfl) rfl
theorem w_1266 : Cond.code yX0_lateInAll cX0_lateInAll 3 (some .int) ∈ TB := tk_5 (List.mem_of_getElem? (i := 207) rfl) rfl
theorem w_1267 : Cond.methodLink RX10 331 yX0_lateInNone ∈ TB := tk_5 (List.mem_of_getElem? (i := 208) rfl) rfl
theorem w_1268 : Cond.instanceMethod yX0_lateInNone ∈ TB := tk_5 (List.mem_of_getElem? (i := 209) rfl) rfl
theorem w_1269 : Cond.selects RX0 yX0_lateInNone yX0_lateInNone ∈ TB := tk_5 (List.mem_of_getElem? (i := 210) rfl) rfl
theorem w_1270 : Cond.code yX0_lateInNone cX0_lateInNone 3 (some .int) ∈ TB := tk_5 (List.mem_of_getElem? (i := 211) rfl) rfl
theorem w_1275 : Cond.methodLink RX10 334 yX0_weigh ∈ TB := tk_5 (List.mem_of_getElem? (i := 216) rfl) rfl
theorem w_1276 : Cond.instanceMethod yX0_weigh ∈ TB := tk_5 (List.mem_of_getElem? (i := 217) rfl) rfl
theorem w_1277 : Cond.selects RX0 yX0_weigh yX0_weigh ∈ TB := tk_5 (List.mem_of_getElem? (i := 218) rfl) rfl
theorem w_1278 : Cond.code yX0_weigh cX0_weigh 3 none ∈ TB := tk_5 (List.mem_of_getElem? (i := 219) rfl) rfl
theorem w_1279 : Cond.methodLink RX0 68 yJ6_bitCount_0f7a4 ∈ TB := tk_5 (List.mem_of_getElem? (i := 220) rfl) rfl
theorem w_1280 : Cond.methodLink RX0 73 yX0_fewestFor ∈ TB := tk_5 (List.mem_of_getElem? (i := 221) rfl) rfl
theorem w_1282 : Cond.instanceMethod yX0_fewestFor ∈ TB := tk_5 (List.mem_of_getElem? (i := 223) rfl) rfl
theorem w_1283 : Cond.code yX0_fewestFor cX0_fewestFor 4 (some .int) ∈ TB := tk_5 (List.mem_of_getElem? (i := 224) rfl) rfl
theorem w_1284 : Cond.methodLink RX0 76 yX0_afterAsking ∈ TB := tk_5 (List.mem_of_getElem? (i := 225) rfl) rfl
theorem w_1286 : Cond.instanceMethod yX0_afterAsking ∈ TB := tk_5 (List.mem_of_getElem? (i := 227) rfl) rfl
theorem w_1287 : Cond.code yX0_afterAsking cX0_afterAsking 5 (some .int) ∈ TB := tk_5 (List.mem_of_getElem? (i := 228) rfl) rfl
theorem w_1288 : Cond.methodLink RX0 79 Lib.Math.min.name ∈ TB := tk_5 (List.mem_of_getElem? (i := 229) rfl) rfl
theorem w_1289 : Cond.methodLink RX10 337 yX0_firstToAsk ∈ TB := tk_5 (List.mem_of_getElem? (i := 230) rfl) rfl
theorem w_1290 : Cond.instanceMethod yX0_firstToAsk ∈ TB := tk_5 (List.mem_of_getElem? (i := 231) rfl) rfl
theorem w_1291 : Cond.selects RX0 yX0_firstToAsk yX0_firstToAsk ∈ TB := tk_5 (List.mem_of_getElem? (i := 232) rfl) rfl
theorem w_1292 : Cond.code yX0_firstToAsk cX0_firstToAsk 3 (some .int) ∈ TB := tk_5 (List.mem_of_getElem? (i := 233) rfl) rfl
theorem w_1293 : Cond.methodLink RX10 340 yX0_mostAsked ∈ TB := tk_5 (List.mem_of_getElem? (i := 234) rfl) rfl
theorem w_1294 : Cond.instanceMethod yX0_mostAsked ∈ TB := tk_5 (List.mem_of_getElem? (i := 235) rfl) rfl
theorem w_1295 : Cond.selects RX0 yX0_mostAsked yX0_mostAsked ∈ TB := tk_5 (List.mem_of_getElem? (i := 236) rfl) rfl
theorem w_1296 : Cond.code yX0_mostAsked cX0_mostAsked 1 (some .int) ∈ TB := tk_5 (List.mem_of_getElem? (i := 237) rfl) rfl
theorem w_1301 : Cond.methodLink RX10 343 yJ6_bitCount_0f7a4 ∈ TB := tk_6 (List.mem_of_getElem? (i := 2) rfl) rfl
theorem w_1302 : Cond.methodLink RX10 348 yX10_nobodyIsLateWith ∈ TB := tk_6 (List.mem_of_getElem? (i := 3) rfl) rfl
theorem w_1304 : Cond.instanceMethod yX10_nobodyIsLateWith ∈ TB := tk_6 (List.mem_of_getElem? (i := 5) rfl) rfl
theorem w_1305 : Cond.code yX10_nobodyIsLateWith cX10_nobodyIsLateWith 2 (some .boolean) ∈ TB := tk_6 (List.mem_of_getElem? (i := 6) rfl) rfl
theorem w_1314 : Cond.methodLink RX10 352 Lib.Math.min.name ∈ TB := tk_6 (List.mem_of_getElem? (i := 15) rfl) rfl
theorem w_1327 : Cond.methodLink RX10 364 yX10_allSaidIsSoBy ∈ TB := tk_6 (List.mem_of_getElem? (i := 28) rfl) rfl
theorem w_1329 : Cond.instanceMethod yX10_allSaidIsSoBy ∈ TB := tk_6 (List.mem_of_getElem? (i := 30) rfl) rfl
theorem w_1330 : Cond.code yX10_allSaidIsSoBy cX10_allSaidIsSoBy 4 (some .boolean) ∈ TB := tk_6 (List.mem_of_getElem? (i := 31) rfl) rfl
theorem w_1351 : Cond.methodLink RX10 374 yX9_become ∈ TB := tk_6 (List.mem_of_getElem? (i := 52) rfl) rfl
theorem w_1352 : Cond.instanceMethod yX9_become ∈ TB := tk_6 (List.mem_of_getElem? (i := 53) rfl) rfl
theorem w_1353 : Cond.selects RX9 yX9_become yX9_become ∈ TB := tk_6 (List.mem_of_getElem? (i := 54) rfl) rfl
theorem w_1354 : Cond.code yX9_become cX9_become 3 none ∈ TB := tk_6 (List.mem_of_getElem? (i := 55) rfl) rfl
theorem w_1355 : Cond.methodLink RX9 87 arraycopyName ∈ TB := tk_6 (List.mem_of_getElem? (i := 56) rfl) rfl
theorem w_1369 : Cond.methodLink RX11 1 objectInit ∈ TB := tk_6 (List.mem_of_getElem? (i := 70) rfl) rfl
theorem w_1370 : Cond.methodLink RX11 62 yX11_copy ∈ TB := tk_6 (List.mem_of_getElem? (i := 71) rfl) rfl
theorem w_1371 : Cond.static yX11_copy ∈ TB := tk_6 (List.mem_of_getElem? (i := 72) rfl) rfl
theorem w_1372 : Cond.code yX11_copy cX11_copy 3 none ∈ TB := tk_6 (List.mem_of_getElem? (i := 73) rfl) rfl
theorem w_1373 : Cond.fieldLink RX11 7 RX11 "a" "[I" ∈ TB := tk_6 (List.mem_of_getElem? (i := 74) rfl) rfl
theorem w_1374 : Cond.fieldLink RX11 13 RX11 "image" "[I" ∈ TB := tk_6 (List.mem_of_getElem? (i := 75) rfl) rfl
theorem w_1375 : Cond.fieldLink RX11 16 RX11 "texts" "[I" ∈ TB := tk_6 (List.mem_of_getElem? (i := 76) rfl) rfl
theorem w_1376 : Cond.fieldLink RX11 19 RX11 "tape" "[I" ∈ TB := tk_6 (List.mem_of_getElem? (i := 77) rfl) rfl
theorem w_1377 : Cond.fieldLink RX11 86 RX11 "taped" "I" ∈ TB := tk_6 (List.mem_of_getElem? (i := 78) rfl) rfl
theorem w_1378 : Cond.fieldLink RX11 22 RX11 "fault" "I" ∈ TB := tk_6 (List.mem_of_getElem? (i := 79) rfl) rfl
theorem w_1379 : Cond.fieldLink RX11 26 RX11 "faultPlace" "I" ∈ TB := tk_6 (List.mem_of_getElem? (i := 80) rfl) rfl
theorem w_1380 : Cond.fieldLink RX11 92 RX11 "at" "I" ∈ TB := tk_6 (List.mem_of_getElem? (i := 81) rfl) rfl
theorem w_1381 : Cond.fieldLink RX11 99 RX11 "place" "I" ∈ TB := tk_6 (List.mem_of_getElem? (i := 82) rfl) rfl
theorem w_1382 : Cond.fieldLink RX11 102 RX11 "token" "I" ∈ TB := tk_6 (List.mem_of_getElem? (i := 83) rfl) rfl
theorem w_1383 : Cond.fieldLink RX11 109 RX11 "number" "I" ∈ TB := tk_6 (List.mem_of_getElem? (i := 84) rfl) rfl
theorem w_1384 : Cond.fieldLink RX11 116 RX11 "word" "J" ∈ TB := tk_6 (List.mem_of_getElem? (i := 85) rfl) rfl
theorem w_1385 : Cond.fieldLink RX11 141 RX11 "text0" "I" ∈ TB := tk_6 (List.mem_of_getElem? (i := 86) rfl) rfl
theorem w_1386 : Cond.fieldLink RX11 144 RX11 "written" "I" ∈ TB := tk_6 (List.mem_of_getElem? (i := 87) rfl) rfl
theorem w_1387 : Cond.fieldLink RX11 151 RX11 "sort0" "I" ∈ TB := tk_6 (List.mem_of_getElem? (i := 88) rfl) rfl
theorem w_1388 : Cond.fieldLink RX11 29 RX11 "pile" "[I" ∈ TB := tk_6 (List.mem_of_getElem? (i := 89) rfl) rfl
theorem w_1389 : Cond.fieldLink RX11 154 RX11 "piled" "I" ∈ TB := tk_6 (List.mem_of_getElem? (i := 90) rfl) rfl
theorem w_1390 : Cond.fieldLink RX11 164 RX11 "opens" "I" ∈ TB := tk_6 (List.mem_of_getElem? (i := 91) rfl) rfl
theorem w_1391 : Cond.fieldLink RX11 182 RX11 "isWhole" "Z" ∈ TB := tk_6 (List.mem_of_getElem? (i := 92) rfl) rfl
theorem w_1392 : Cond.fieldLink RX11 243 RX11 "once" "I" ∈ TB := tk_6 (List.mem_of_getElem? (i := 93) rfl) rfl
theorem w_1393 : Cond.fieldLink RX11 32 RX11 "named" "[I" ∈ TB := tk_6 (List.mem_of_getElem? (i := 94) rfl) rfl
theorem w_1394 : Cond.fieldLink RX11 267 RX11 "ringsAsked" "I" ∈ TB := tk_6 (List.mem_of_getElem? (i := 95) rfl) rfl
theorem w_1395 : Cond.fieldLink RX11 35 RX11 "values" "[J" ∈ TB := tk_6 (List.mem_of_getElem? (i := 96) rfl) rfl
theorem w_1396 : Cond.fieldLink RX11 39 RX11 "truth" "[Z" ∈ TB := tk_6 (List.mem_of_getElem? (i := 97) rfl) rfl
theorem w_1397 : Cond.fieldLink RX11 43 RX11 "isWritten" "Z" ∈ TB := tk_6 (List.mem_of_getElem? (i := 98) rfl) rfl
theorem w_1398 : Cond.fieldLink RX11 323 RX11 "lateOnes" "I" ∈ TB := tk_6 (List.mem_of_getElem? (i := 99) rfl) rfl
theorem w_1399 : Cond.fieldLink RX11 47 RX11 "aside" "[I" ∈ TB := tk_6 (List.mem_of_getElem? (i := 100) rfl) rfl
theorem w_1400 : Cond.fieldLink RX11 50 RX11 "leads" "[I" ∈ TB := tk_6 (List.mem_of_getElem? (i := 101) rfl) rfl
theorem w_1401 : Cond.fieldLink RX11 53 RX11 "raced" "[I" ∈ TB := tk_6 (List.mem_of_getElem? (i := 102) rfl) rfl
theorem w_1402 : Cond.fieldLink RX11 56 RX11 "days" "[I" ∈ TB := tk_6 (List.mem_of_getElem? (i := 103) rfl) rfl
theorem w_1403 : Cond.fieldLink RX11 59 RX11 "asks" "[I" ∈ TB := tk_6 (List.mem_of_getElem? (i := 104) rfl) rfl
theorem w_1467 : Cond.arrayClass .boolean ∈ TB := tk_6 (List.mem_of_getElem? (i := 168) rfl) rfl
theorem w_1469 : Cond.instanceMethod yX11_person ∈ TB := tk_6 (List.mem_of_getElem? (i := 170) rfl) rfl
theorem w_1470 : Cond.selects RX11 yX11_person yX11_person ∈ TB := tk_6 (List.mem_of_getElem? (i := 171) rfl) rfl
theorem w_1471 : Cond.code yX11_person cX11_person 6 (some .int) ∈ TB := tk_6 (List.mem_of_getElem? (i := 172) rfl) rfl
theorem w_1472 : Cond.methodLink RX11 66 yX11_isIn ∈ TB := tk_6 (List.mem_of_getElem? (i := 173) rfl) rfl
theorem w_1473 : Cond.static yX11_isIn ∈ TB := tk_6 (List.mem_of_getElem? (i := 174) rfl) rfl
theorem w_1474 : Cond.code yX11_isIn cX11_isIn 3 (some .boolean) ∈ TB := tk_6 (List.mem_of_getElem? (i := 175) rfl) rfl
theorem w_1475 : Cond.methodLink RX11 78 yX11_put ∈ TB := tk_6 (List.mem_of_getElem? (i := 176) rfl) rfl
theorem w_1477 : Cond.instanceMethod yX11_put ∈ TB := tk_6 (List.mem_of_getElem? (i := 178) rfl) rfl
theorem w_1478 : Cond.code yX11_put cX11_put 4 none ∈ TB := tk_6 (List.mem_of_getElem? (i := 179) rfl) rfl
theorem w_1479 : Cond.methodLink RX11 82 yX11_begin ∈ TB := tk_6 (List.mem_of_getElem? (i := 180) rfl) rfl
theorem w_1481 : Cond.instanceMethod yX11_begin ∈ TB := tk_6 (List.mem_of_getElem? (i := 182) rfl) rfl
theorem w_1482 : Cond.code yX11_begin cX11_begin 2 none ∈ TB := tk_6 (List.mem_of_getElem? (i := 183) rfl) rfl
theorem w_1483 : Cond.methodLink RX11 74 yX11_get ∈ TB := tk_6 (List.mem_of_getElem? (i := 184) rfl) rfl
theorem w_1485 : Cond.instanceMethod yX11_get ∈ TB := tk_6 (List.mem_of_getElem? (i := 186) rfl) rfl
theorem w_1486 : Cond.code yX11_get cX11_get 3 (some .int) ∈ TB := tk_6 (List.mem_of_getElem? (i := 187) rfl) rfl
theorem w_1495 : Cond.methodLink RX11 89 yX11_four ∈ TB := tk_6 (List.mem_of_getElem? (i := 196) rfl) rfl
theorem w_1497 : Cond.instanceMethod yX11_four ∈ TB := tk_6 (List.mem_of_getElem? (i := 198) rfl) rfl
theorem w_1498 : Cond.code yX11_four cX11_four 3 none ∈ TB := tk_6 (List.mem_of_getElem? (i := 199) rfl) rfl
theorem w_1507 : Cond.methodLink RX11 256 yX11_readText ∈ TB := tk_6 (List.mem_of_getElem? (i := 208) rfl) rfl
theorem w_1509 : Cond.instanceMethod yX11_readText ∈ TB := tk_6 (List.mem_of_getElem? (i := 210) rfl) rfl
theorem w_1510 : Cond.code yX11_readText cX11_readText 2 (some .int) ∈ TB := tk_6 (List.mem_of_getElem? (i := 211) rfl) rfl
theorem w_1511 : Cond.methodLink RX11 173 yX11_nextToken ∈ TB := tk_6 (List.mem_of_getElem? (i := 212) rfl) rfl
theorem w_1513 : Cond.instanceMethod yX11_nextToken ∈ TB := tk_6 (List.mem_of_getElem? (i := 214) rfl) rfl
theorem w_1514 : Cond.code yX11_nextToken cX11_nextToken 2 none ∈ TB := tk_6 (List.mem_of_getElem? (i := 215) rfl) rfl
theorem w_1515 : Cond.methodLink RX11 95 yX11_byteAt ∈ TB := tk_6 (List.mem_of_getElem? (i := 216) rfl) rfl
theorem w_1517 : Cond.instanceMethod yX11_byteAt ∈ TB := tk_6 (List.mem_of_getElem? (i := 218) rfl) rfl
theorem w_1518 : Cond.code yX11_byteAt cX11_byteAt 2 (some .int) ∈ TB := tk_6 (List.mem_of_getElem? (i := 219) rfl) rfl
theorem w_1519 : Cond.methodLink RX11 105 yX11_isFigure ∈ TB := tk_6 (List.mem_of_getElem? (i := 220) rfl) rfl
theorem w_1520 : Cond.static yX11_isFigure ∈ TB := tk_6 (List.mem_of_getElem? (i := 221) rfl) rfl
theorem w_1521 : Cond.code yX11_isFigure cX11_isFigure 1 (some .boolean) ∈ TB := tk_6 (List.mem_of_getElem? (i := 222) rfl) rfl
theorem w_1522 : Cond.constant RX11 112 (99999) ∈ TB := tk_6 (List.mem_of_getElem? (i := 223) rfl) rfl
theorem w_1523 : Cond.methodLink RX11 113 yX11_isLetterByte ∈ TB := tk_6 (List.mem_of_getElem? (i := 224) rfl) rfl
theorem w_1524 : Cond.static yX11_isLetterByte ∈ TB := tk_6 (List.mem_of_getElem? (i := 225) rfl) rfl
theorem w_1525 : Cond.code yX11_isLetterByte cX11_isLetterByte 1 (some .boolean) ∈ TB := tk_6 (List.mem_of_getElem? (i := 226) rfl) rfl
theorem w_1526 : Cond.constantLong RX11 120 (1152921504606846976) ∈ TB := tk_6 (List.mem_of_getElem? (i := 227) rfl) rfl
theorem w_1527 : Cond.methodLink RX11 122 yX11_isSign ∈ TB := tk_6 (List.mem_of_getElem? (i := 228) rfl) rfl
theorem w_1528 : Cond.static yX11_isSign ∈ TB := tk_6 (List.mem_of_getElem? (i := 229) rfl) rfl
theorem w_1529 : Cond.code yX11_isSign cX11_isSign 1 (some .boolean) ∈ TB := tk_6 (List.mem_of_getElem? (i := 230) rfl) rfl
theorem w_1530 : Cond.methodLink RX11 253 yX11_clause ∈ TB := tk_6 (List.mem_of_getElem? (i := 231) rfl) rfl
theorem w_1532 : Cond.instanceMethod yX11_clause ∈ TB := tk_6 (List.mem_of_getElem? (i := 233) rfl) rfl
theorem w_1533 : Cond.code yX11_clause cX11_clause 5 (some .int) ∈ TB := tk_6 (List.mem_of_getElem? (i := 234) rfl) rfl
theorem w_1534 : Cond.methodLink RX11 240 yX11_sortOf ∈ TB := tk_6 (List.mem_of_getElem? (i := 235) rfl) rfl
theorem w_1536 : Cond.instanceMethod yX11_sortOf ∈ TB := tk_6 (List.mem_of_getElem? (i := 237) rfl) rfl
theorem w_1537 : Cond.code yX11_sortOf cX11_sortOf 1 (some .int) ∈ TB := tk_6 (List.mem_of_getElem? (i := 238) rfl) rfl
theorem w_1538 : Cond.methodLink RX11 133 yX11_w4 ∈ TB := tk_6 (List.mem_of_getElem? (i := 239) rfl) rfl
theorem w_1539 : Cond.static yX11_w4 ∈ TB := tk_7 (List.mem_of_getElem? (i := 0) rfl) rfl
theorem w_1540 : Cond.code yX11_w4 cX11_w4 4 (some .long) ∈ TB := tk_7 (List.mem_of_getElem? (i := 1) rfl) rfl
theorem w_1541 : Cond.methodLink RX11 129 yX11_w3 ∈ TB := tk_7 (List.mem_of_getElem? (i := 2) rfl) rfl
theorem w_1542 : Cond.static yX11_w3 ∈ TB := tk_7 (List.mem_of_getElem? (i := 3) rfl) rfl
theorem w_1543 : Cond.code yX11_w3 cX11_w3 3 (some .long) ∈ TB := tk_7 (List.mem_of_getElem? (i := 4) rfl) rfl
theorem w_1544 : Cond.methodLink RX11 125 yX11_w2 ∈ TB := tk_7 (List.mem_of_getElem? (i := 5) rfl) rfl
theorem w_1545 : Cond.static yX11_w2 ∈ TB := tk_7 (List.mem_of_getElem? (i := 6) rfl) rfl
theorem w_1546 : Cond.code yX11_w2 cX11_w2 2 (some .long) ∈ TB := tk_7 (List.mem_of_getElem? (i := 7) rfl) rfl
theorem w_1547 : Cond.methodLink RX11 191 yX11_isWord ∈ TB := tk_7 (List.mem_of_getElem? (i := 8) rfl) rfl
theorem w_1549 : Cond.instanceMethod yX11_isWord ∈ TB := tk_7 (List.mem_of_getElem? (i := 10) rfl) rfl
theorem w_1550 : Cond.code yX11_isWord cX11_isWord 3 (some .boolean) ∈ TB := tk_7 (List.mem_of_getElem? (i := 11) rfl) rfl
theorem w_1551 : Cond.methodLink RX11 137 yX11_w5 ∈ TB := tk_7 (List.mem_of_getElem? (i := 12) rfl) rfl
theorem w_1552 : Cond.static yX11_w5 ∈ TB := tk_7 (List.mem_of_getElem? (i := 13) rfl) rfl
theorem w_1553 : Cond.code yX11_w5 cX11_w5 5 (some .long) ∈ TB := tk_7 (List.mem_of_getElem? (i := 14) rfl) rfl
theorem w_1554 : Cond.methodLink RX11 236 yX11_w6 ∈ TB := tk_7 (List.mem_of_getElem? (i := 15) rfl) rfl
theorem w_1555 : Cond.static yX11_w6 ∈ TB := tk_7 (List.mem_of_getElem? (i := 16) rfl) rfl
theorem w_1556 : Cond.code yX11_w6 cX11_w6 6 (some .long) ∈ TB := tk_7 (List.mem_of_getElem? (i := 17) rfl) rfl
theorem w_1557 : Cond.methodLink RX11 246 yX11_has ∈ TB := tk_7 (List.mem_of_getElem? (i := 18) rfl) rfl
theorem w_1558 : Cond.static yX11_has ∈ TB := tk_7 (List.mem_of_getElem? (i := 19) rfl) rfl
theorem w_1559 : Cond.code yX11_has cX11_has 2 (some .boolean) ∈ TB := tk_7 (List.mem_of_getElem? (i := 20) rfl) rfl
theorem w_1560 : Cond.methodLink RX11 250 yX11_body ∈ TB := tk_7 (List.mem_of_getElem? (i := 21) rfl) rfl
theorem w_1562 : Cond.instanceMethod yX11_body ∈ TB := tk_7 (List.mem_of_getElem? (i := 23) rfl) rfl
theorem w_1563 : Cond.code yX11_body cX11_body 3 (some .int) ∈ TB := tk_7 (List.mem_of_getElem? (i := 24) rfl) rfl
theorem w_1564 : Cond.methodLink RX11 227 yX11_personClause ∈ TB := tk_7 (List.mem_of_getElem? (i := 25) rfl) rfl
theorem w_1566 : Cond.instanceMethod yX11_personClause ∈ TB := tk_7 (List.mem_of_getElem? (i := 27) rfl) rfl
theorem w_1567 : Cond.code yX11_personClause cX11_personClause 3 (some .int) ∈ TB := tk_7 (List.mem_of_getElem? (i := 28) rfl) rfl
theorem w_1568 : Cond.methodLink RX11 216 yX11_figure ∈ TB := tk_7 (List.mem_of_getElem? (i := 29) rfl) rfl
theorem w_1570 : Cond.instanceMethod yX11_figure ∈ TB := tk_7 (List.mem_of_getElem? (i := 31) rfl) rfl
theorem w_1571 : Cond.code yX11_figure cX11_figure 4 (some .int) ∈ TB := tk_7 (List.mem_of_getElem? (i := 32) rfl) rfl
theorem w_1572 : Cond.methodLink RX11 223 yX11_worded ∈ TB := tk_7 (List.mem_of_getElem? (i := 33) rfl) rfl
theorem w_1574 : Cond.instanceMethod yX11_worded ∈ TB := tk_7 (List.mem_of_getElem? (i := 35) rfl) rfl
theorem w_1575 : Cond.code yX11_worded cX11_worded 6 (some .int) ∈ TB := tk_7 (List.mem_of_getElem? (i := 36) rfl) rfl
theorem w_1576 : Cond.methodLink RX11 230 yX11_dueClause ∈ TB := tk_7 (List.mem_of_getElem? (i := 37) rfl) rfl
theorem w_1578 : Cond.instanceMethod yX11_dueClause ∈ TB := tk_7 (List.mem_of_getElem? (i := 39) rfl) rfl
theorem w_1579 : Cond.code yX11_dueClause cX11_dueClause 3 (some .int) ∈ TB := tk_7 (List.mem_of_getElem? (i := 40) rfl) rfl
theorem w_1580 : Cond.methodLink RX11 233 yX11_lawClause ∈ TB := tk_7 (List.mem_of_getElem? (i := 41) rfl) rfl
theorem w_1582 : Cond.instanceMethod yX11_lawClause ∈ TB := tk_7 (List.mem_of_getElem? (i := 43) rfl) rfl
theorem w_1583 : Cond.code yX11_lawClause cX11_lawClause 3 (some .int) ∈ TB := tk_7 (List.mem_of_getElem? (i := 44) rfl) rfl
theorem w_1584 : Cond.methodLink RX11 220 yX11_summed ∈ TB := tk_7 (List.mem_of_getElem? (i := 45) rfl) rfl
theorem w_1586 : Cond.instanceMethod yX11_summed ∈ TB := tk_7 (List.mem_of_getElem? (i := 47) rfl) rfl
theorem w_1587 : Cond.code yX11_summed cX11_summed 2 (some .int) ∈ TB := tk_7 (List.mem_of_getElem? (i := 48) rfl) rfl
theorem w_1588 : Cond.methodLink RX11 210 yX11_behindOne ∈ TB := tk_7 (List.mem_of_getElem? (i := 49) rfl) rfl
theorem w_1590 : Cond.instanceMethod yX11_behindOne ∈ TB := tk_7 (List.mem_of_getElem? (i := 51) rfl) rfl
theorem w_1591 : Cond.code yX11_behindOne cX11_behindOne 4 (some .boolean) ∈ TB := tk_7 (List.mem_of_getElem? (i := 52) rfl) rfl
theorem w_1592 : Cond.methodLink RX11 204 yX11_betweenOf ∈ TB := tk_7 (List.mem_of_getElem? (i := 53) rfl) rfl
theorem w_1594 : Cond.instanceMethod yX11_betweenOf ∈ TB := tk_7 (List.mem_of_getElem? (i := 55) rfl) rfl
theorem w_1595 : Cond.code yX11_betweenOf cX11_betweenOf 1 (some .int) ∈ TB := tk_7 (List.mem_of_getElem? (i := 56) rfl) rfl
theorem w_1596 : Cond.methodLink RX11 170 yX11_openNow ∈ TB := tk_7 (List.mem_of_getElem? (i := 57) rfl) rfl
theorem w_1598 : Cond.instanceMethod yX11_openNow ∈ TB := tk_7 (List.mem_of_getElem? (i := 59) rfl) rfl
theorem w_1599 : Cond.code yX11_openNow cX11_openNow 1 (some .int) ∈ TB := tk_7 (List.mem_of_getElem? (i := 60) rfl) rfl
theorem w_1600 : Cond.methodLink RX11 167 yX11_openAt ∈ TB := tk_7 (List.mem_of_getElem? (i := 61) rfl) rfl
theorem w_1602 : Cond.instanceMethod yX11_openAt ∈ TB := tk_7 (List.mem_of_getElem? (i := 63) rfl) rfl
theorem w_1603 : Cond.code yX11_openAt cX11_openAt 2 (some .int) ∈ TB := tk_7 (List.mem_of_getElem? (i := 64) rfl) rfl
theorem w_1604 : Cond.methodLink RX11 198 yX11_isCompared ∈ TB := tk_7 (List.mem_of_getElem? (i := 65) rfl) rfl
theorem w_1606 : Cond.instanceMethod yX11_isCompared ∈ TB := tk_7 (List.mem_of_getElem? (i := 67) rfl) rfl
theorem w_1607 : Cond.code yX11_isCompared cX11_isCompared 2 (some .boolean) ∈ TB := tk_7 (List.mem_of_getElem? (i := 68) rfl) rfl
theorem w_1608 : Cond.methodLink RX11 157 yX11_rank ∈ TB := tk_7 (List.mem_of_getElem? (i := 69) rfl) rfl
theorem w_1609 : Cond.static yX11_rank ∈ TB := tk_7 (List.mem_of_getElem? (i := 70) rfl) rfl
theorem w_1610 : Cond.code yX11_rank cX11_rank 1 (some .int) ∈ TB := tk_7 (List.mem_of_getElem? (i := 71) rfl) rfl
theorem w_1611 : Cond.methodLink RX11 201 yX11_compareOf ∈ TB := tk_7 (List.mem_of_getElem? (i := 72) rfl) rfl
theorem w_1613 : Cond.instanceMethod yX11_compareOf ∈ TB := tk_7 (List.mem_of_getElem? (i := 74) rfl) rfl
theorem w_1614 : Cond.code yX11_compareOf cX11_compareOf 1 (some .int) ∈ TB := tk_7 (List.mem_of_getElem? (i := 75) rfl) rfl
theorem w_1615 : Cond.methodLink RX11 185 yX11_settle ∈ TB := tk_7 (List.mem_of_getElem? (i := 76) rfl) rfl
theorem w_1617 : Cond.instanceMethod yX11_settle ∈ TB := tk_7 (List.mem_of_getElem? (i := 78) rfl) rfl
theorem w_1618 : Cond.code yX11_settle cX11_settle 2 none ∈ TB := tk_7 (List.mem_of_getElem? (i := 79) rfl) rfl
theorem w_1619 : Cond.methodLink RX11 160 yX11_emit ∈ TB := tk_7 (List.mem_of_getElem? (i := 80) rfl) rfl
theorem w_1621 : Cond.instanceMethod yX11_emit ∈ TB := tk_7 (List.mem_of_getElem? (i := 82) rfl) rfl
theorem w_1622 : Cond.code yX11_emit cX11_emit 3 none ∈ TB := tk_7 (List.mem_of_getElem? (i := 83) rfl) rfl
theorem w_1623 : Cond.methodLink RX11 207 yX11_partOf ∈ TB := tk_7 (List.mem_of_getElem? (i := 84) rfl) rfl
theorem w_1625 : Cond.instanceMethod yX11_partOf ∈ TB := tk_7 (List.mem_of_getElem? (i := 86) rfl) rfl
theorem w_1626 : Cond.code yX11_partOf cX11_partOf 2 (some .int) ∈ TB := tk_7 (List.mem_of_getElem? (i := 87) rfl) rfl
theorem w_1627 : Cond.methodLink RX11 213 yX11_beginOne ∈ TB := tk_7 (List.mem_of_getElem? (i := 88) rfl) rfl
theorem w_1629 : Cond.instanceMethod yX11_beginOne ∈ TB := tk_7 (List.mem_of_getElem? (i := 90) rfl) rfl
theorem w_1630 : Cond.code yX11_beginOne cX11_beginOne 2 (some .int) ∈ TB := tk_7 (List.mem_of_getElem? (i := 91) rfl) rfl
theorem w_1631 : Cond.methodLink RX11 176 yX11_nameOf ∈ TB := tk_7 (List.mem_of_getElem? (i := 92) rfl) rfl
theorem w_1633 : Cond.instanceMethod yX11_nameOf ∈ TB := tk_7 (List.mem_of_getElem? (i := 94) rfl) rfl
theorem w_1634 : Cond.code yX11_nameOf cX11_nameOf 1 (some .int) ∈ TB := tk_7 (List.mem_of_getElem? (i := 95) rfl) rfl
theorem w_1635 : Cond.methodLink RX11 147 yX11_isWeather ∈ TB := tk_7 (List.mem_of_getElem? (i := 96) rfl) rfl
theorem w_1637 : Cond.instanceMethod yX11_isWeather ∈ TB := tk_7 (List.mem_of_getElem? (i := 98) rfl) rfl
theorem w_1638 : Cond.code yX11_isWeather cX11_isWeather 1 (some .boolean) ∈ TB := tk_7 (List.mem_of_getElem? (i := 99) rfl) rfl
theorem w_1639 : Cond.methodLink RX11 179 yX11_isOf ∈ TB := tk_7 (List.mem_of_getElem? (i := 100) rfl) rfl
theorem w_1641 : Cond.instanceMethod yX11_isOf ∈ TB := tk_7 (List.mem_of_getElem? (i := 102) rfl) rfl
theorem w_1642 : Cond.code yX11_isOf cX11_isOf 2 (some .boolean) ∈ TB := tk_7 (List.mem_of_getElem? (i := 103) rfl) rfl
theorem w_1643 : Cond.methodLink RX11 188 yX11_opened ∈ TB := tk_7 (List.mem_of_getElem? (i := 104) rfl) rfl
theorem w_1645 : Cond.instanceMethod yX11_opened ∈ TB := tk_7 (List.mem_of_getElem? (i := 106) rfl) rfl
theorem w_1646 : Cond.code yX11_opened cX11_opened 2 (some .int) ∈ TB := tk_7 (List.mem_of_getElem? (i := 107) rfl) rfl
theorem w_1647 : Cond.methodLink RX11 195 yX11_isAskAhead ∈ TB := tk_7 (List.mem_of_getElem? (i := 108) rfl) rfl
theorem w_1649 : Cond.instanceMethod yX11_isAskAhead ∈ TB := tk_7 (List.mem_of_getElem? (i := 110) rfl) rfl
theorem w_1650 : Cond.code yX11_isAskAhead cX11_isAskAhead 1 (some .boolean) ∈ TB := tk_7 (List.mem_of_getElem? (i := 111) rfl) rfl
theorem w_1664 : Cond.instanceMethod yX11_ring ∈ TB := tk_7 (List.mem_of_getElem? (i := 125) rfl) rfl
theorem w_1665 : Cond.selects RX11 yX11_ring yX11_ring ∈ TB := tk_7 (List.mem_of_getElem? (i := 126) rfl) rfl
theorem w_1666 : Cond.code yX11_ring cX11_ring 2 (some .boolean) ∈ TB := tk_7 (List.mem_of_getElem? (i := 127) rfl) rfl
theorem w_1667 : Cond.methodLink RX11 329 yX11_areRings ∈ TB := tk_7 (List.mem_of_getElem? (i := 128) rfl) rfl
theorem w_1669 : Cond.instanceMethod yX11_areRings ∈ TB := tk_7 (List.mem_of_getElem? (i := 130) rfl) rfl
theorem w_1670 : Cond.code yX11_areRings cX11_areRings 2 (some .boolean) ∈ TB := tk_7 (List.mem_of_getElem? (i := 131) rfl) rfl
theorem w_1671 : Cond.methodLink RX11 70 yX11_all ∈ TB := tk_7 (List.mem_of_getElem? (i := 132) rfl) rfl
theorem w_1673 : Cond.instanceMethod yX11_all ∈ TB := tk_7 (List.mem_of_getElem? (i := 134) rfl) rfl
theorem w_1674 : Cond.code yX11_all cX11_all 1 (some .int) ∈ TB := tk_7 (List.mem_of_getElem? (i := 135) rfl) rfl
theorem w_1675 : Cond.methodLink RX11 332 yX11_keep ∈ TB := tk_7 (List.mem_of_getElem? (i := 136) rfl) rfl
theorem w_1677 : Cond.instanceMethod yX11_keep ∈ TB := tk_7 (List.mem_of_getElem? (i := 138) rfl) rfl
theorem w_1678 : Cond.code yX11_keep cX11_keep 4 none ∈ TB := tk_7 (List.mem_of_getElem? (i := 139) rfl) rfl
theorem w_1680 : Cond.instanceMethod yX11_due ∈ TB := tk_7 (List.mem_of_getElem? (i := 141) rfl) rfl
theorem w_1681 : Cond.selects RX11 yX11_due yX11_due ∈ TB := tk_7 (List.mem_of_getElem? (i := 142) rfl) rfl
theorem w_1682 : Cond.code yX11_due cX11_due 3 (some .boolean) ∈ TB := tk_7 (List.mem_of_getElem? (i := 143) rfl) rfl
theorem w_1683 : Cond.methodLink RX11 335 yX11_isPerson ∈ TB := tk_7 (List.mem_of_getElem? (i := 144) rfl) rfl
theorem w_1685 : Cond.instanceMethod yX11_isPerson ∈ TB := tk_7 (List.mem_of_getElem? (i := 146) rfl) rfl
theorem w_1686 : Cond.code yX11_isPerson cX11_isPerson 2 (some .boolean) ∈ TB := tk_7 (List.mem_of_getElem? (i := 147) rfl) rfl
theorem w_1688 : Cond.instanceMethod yX11_bed ∈ TB := tk_7 (List.mem_of_getElem? (i := 149) rfl) rfl
theorem w_1689 : Cond.selects RX11 yX11_bed yX11_bed ∈ TB := tk_7 (List.mem_of_getElem? (i := 150) rfl) rfl
theorem w_1690 : Cond.code yX11_bed cX11_bed 2 (some .boolean) ∈ TB := tk_7 (List.mem_of_getElem? (i := 151) rfl) rfl
theorem w_1691 : Cond.methodLink RX11 338 yX11_isLain ∈ TB := tk_7 (List.mem_of_getElem? (i := 152) rfl) rfl
theorem w_1693 : Cond.instanceMethod yX11_isLain ∈ TB := tk_7 (List.mem_of_getElem? (i := 154) rfl) rfl
theorem w_1694 : Cond.code yX11_isLain cX11_isLain 3 (some .boolean) ∈ TB := tk_7 (List.mem_of_getElem? (i := 155) rfl) rfl
theorem w_1696 : Cond.instanceMethod yX11_up ∈ TB := tk_7 (List.mem_of_getElem? (i := 157) rfl) rfl
theorem w_1697 : Cond.selects RX11 yX11_up yX11_up ∈ TB := tk_7 (List.mem_of_getElem? (i := 158) rfl) rfl
theorem w_1698 : Cond.code yX11_up cX11_up 2 (some .boolean) ∈ TB := tk_7 (List.mem_of_getElem? (i := 159) rfl) rfl
theorem w_1703 : Cond.methodLink RX11 344 yX11_arePassed ∈ TB := tk_7 (List.mem_of_getElem? (i := 164) rfl) rfl
theorem w_1705 : Cond.instanceMethod yX11_arePassed ∈ TB := tk_7 (List.mem_of_getElem? (i := 166) rfl) rfl
theorem w_1706 : Cond.code yX11_arePassed cX11_arePassed 3 (some .boolean) ∈ TB := tk_7 (List.mem_of_getElem? (i := 167) rfl) rfl
theorem w_1707 : Cond.methodLink RX11 341 yX11_pass ∈ TB := tk_7 (List.mem_of_getElem? (i := 168) rfl) rfl
theorem w_1709 : Cond.instanceMethod yX11_pass ∈ TB := tk_7 (List.mem_of_getElem? (i := 170) rfl) rfl
theorem w_1710 : Cond.code yX11_pass cX11_pass 3 none ∈ TB := tk_7 (List.mem_of_getElem? (i := 171) rfl) rfl
theorem w_1711 : Cond.methodLink RX11 317 yX11_anew ∈ TB := tk_7 (List.mem_of_getElem? (i := 172) rfl) rfl
theorem w_1713 : Cond.instanceMethod yX11_anew ∈ TB := tk_7 (List.mem_of_getElem? (i := 174) rfl) rfl
theorem w_1714 : Cond.code yX11_anew cX11_anew 1 none ∈ TB := tk_7 (List.mem_of_getElem? (i := 175) rfl) rfl
theorem w_1715 : Cond.constantLong RX11 311 (463) ∈ TB := tk_7 (List.mem_of_getElem? (i := 176) rfl) rfl
theorem w_1716 : Cond.constantLong RX11 313 (353) ∈ TB := tk_7 (List.mem_of_getElem? (i := 177) rfl) rfl
theorem w_1717 : Cond.constantLong RX11 315 (30643) ∈ TB := tk_7 (List.mem_of_getElem? (i := 178) rfl) rfl
theorem w_1718 : Cond.methodLink RX11 320 yX11_lateBy ∈ TB := tk_7 (List.mem_of_getElem? (i := 179) rfl) rfl
theorem w_1720 : Cond.instanceMethod yX11_lateBy ∈ TB := tk_7 (List.mem_of_getElem? (i := 181) rfl) rfl
theorem w_1721 : Cond.code yX11_lateBy cX11_lateBy 5 (some .int) ∈ TB := tk_7 (List.mem_of_getElem? (i := 182) rfl) rfl
theorem w_1722 : Cond.methodLink RX11 305 yX11_runnersBy ∈ TB := tk_7 (List.mem_of_getElem? (i := 183) rfl) rfl
theorem w_1724 : Cond.instanceMethod yX11_runnersBy ∈ TB := tk_7 (List.mem_of_getElem? (i := 185) rfl) rfl
theorem w_1725 : Cond.code yX11_runnersBy cX11_runnersBy 5 (some .int) ∈ TB := tk_7 (List.mem_of_getElem? (i := 186) rfl) rfl
theorem w_1726 : Cond.methodLink RX11 292 yX11_isUp ∈ TB := tk_7 (List.mem_of_getElem? (i := 187) rfl) rfl
theorem w_1728 : Cond.instanceMethod yX11_isUp ∈ TB := tk_7 (List.mem_of_getElem? (i := 189) rfl) rfl
theorem w_1729 : Cond.code yX11_isUp cX11_isUp 2 (some .boolean) ∈ TB := tk_7 (List.mem_of_getElem? (i := 190) rfl) rfl
theorem w_1730 : Cond.methodLink RX11 295 yX11_name ∈ TB := tk_7 (List.mem_of_getElem? (i := 191) rfl) rfl
theorem w_1732 : Cond.instanceMethod yX11_name ∈ TB := tk_7 (List.mem_of_getElem? (i := 193) rfl) rfl
theorem w_1733 : Cond.code yX11_name cX11_name 3 none ∈ TB := tk_7 (List.mem_of_getElem? (i := 194) rfl) rfl
theorem w_1734 : Cond.methodLink RX11 298 yX11_bits ∈ TB := tk_7 (List.mem_of_getElem? (i := 195) rfl) rfl
theorem w_1735 : Cond.static yX11_bits ∈ TB := tk_7 (List.mem_of_getElem? (i := 196) rfl) rfl
theorem w_1736 : Cond.code yX11_bits cX11_bits 3 (some .int) ∈ TB := tk_7 (List.mem_of_getElem? (i := 197) rfl) rfl
theorem w_1737 : Cond.methodLink RX11 301 yX11_says ∈ TB := tk_7 (List.mem_of_getElem? (i := 198) rfl) rfl
theorem w_1739 : Cond.instanceMethod yX11_says ∈ TB := tk_7 (List.mem_of_getElem? (i := 200) rfl) rfl
theorem w_1740 : Cond.code yX11_says cX11_says 6 (some .int) ∈ TB := tk_7 (List.mem_of_getElem? (i := 201) rfl) rfl
theorem w_1741 : Cond.methodLink RX11 285 yX11_summedUp ∈ TB := tk_7 (List.mem_of_getElem? (i := 202) rfl) rfl
theorem w_1743 : Cond.instanceMethod yX11_summedUp ∈ TB := tk_7 (List.mem_of_getElem? (i := 204) rfl) rfl
theorem w_1744 : Cond.code yX11_summedUp cX11_summedUp 10 (some .long) ∈ TB := tk_7 (List.mem_of_getElem? (i := 205) rfl) rfl
theorem w_1745 : Cond.methodLink RX11 270 yX11_ringsFor ∈ TB := tk_7 (List.mem_of_getElem? (i := 206) rfl) rfl
theorem w_1747 : Cond.instanceMethod yX11_ringsFor ∈ TB := tk_7 (List.mem_of_getElem? (i := 208) rfl) rfl
theorem w_1748 : Cond.code yX11_ringsFor cX11_ringsFor 3 (some .long) ∈ TB := tk_7 (List.mem_of_getElem? (i := 209) rfl) rfl
theorem w_1749 : Cond.methodLink RX11 273 yX11_two ∈ TB := tk_7 (List.mem_of_getElem? (i := 210) rfl) rfl
theorem w_1750 : Cond.static yX11_two ∈ TB := tk_7 (List.mem_of_getElem? (i := 211) rfl) rfl
theorem w_1751 : Cond.code yX11_two cX11_two 5 (some .long) ∈ TB := tk_7 (List.mem_of_getElem? (i := 212) rfl) rfl
theorem w_1752 : Cond.methodLink RX11 263 yX11_clip ∈ TB := tk_7 (List.mem_of_getElem? (i := 213) rfl) rfl
theorem w_1753 : Cond.static yX11_clip ∈ TB := tk_7 (List.mem_of_getElem? (i := 214) rfl) rfl
theorem w_1754 : Cond.code yX11_clip cX11_clip 2 (some .long) ∈ TB := tk_7 (List.mem_of_getElem? (i := 215) rfl) rfl
theorem w_1755 : Cond.constantLong RX11 259 (1000000) ∈ TB := tk_7 (List.mem_of_getElem? (i := 216) rfl) rfl
theorem w_1756 : Cond.constantLong RX11 261 (-1000000) ∈ TB := tk_7 (List.mem_of_getElem? (i := 217) rfl) rfl
theorem w_1757 : Cond.methodLink RX11 277 yX11_isAsked ∈ TB := tk_7 (List.mem_of_getElem? (i := 218) rfl) rfl
theorem w_1758 : Cond.static yX11_isAsked ∈ TB := tk_7 (List.mem_of_getElem? (i := 219) rfl) rfl
theorem w_1759 : Cond.code yX11_isAsked cX11_isAsked 5 (some .boolean) ∈ TB := tk_7 (List.mem_of_getElem? (i := 220) rfl) rfl
theorem w_1760 : Cond.methodLink RX11 281 yX11_joined ∈ TB := tk_7 (List.mem_of_getElem? (i := 221) rfl) rfl
theorem w_1761 : Cond.static yX11_joined ∈ TB := tk_7 (List.mem_of_getElem? (i := 222) rfl) rfl
theorem w_1762 : Cond.code yX11_joined cX11_joined 3 (some .boolean) ∈ TB := tk_7 (List.mem_of_getElem? (i := 223) rfl) rfl
theorem w_1763 : Cond.methodLink RX11 288 yX11_cut ∈ TB := tk_7 (List.mem_of_getElem? (i := 224) rfl) rfl
theorem w_1764 : Cond.static yX11_cut ∈ TB := tk_7 (List.mem_of_getElem? (i := 225) rfl) rfl
theorem w_1765 : Cond.code yX11_cut cX11_cut 4 (some .int) ∈ TB := tk_7 (List.mem_of_getElem? (i := 226) rfl) rfl
theorem w_1766 : Cond.methodLink RX11 308 yX11_takesOf ∈ TB := tk_7 (List.mem_of_getElem? (i := 227) rfl) rfl
theorem w_1768 : Cond.instanceMethod yX11_takesOf ∈ TB := tk_7 (List.mem_of_getElem? (i := 229) rfl) rfl
theorem w_1769 : Cond.code yX11_takesOf cX11_takesOf 7 (some .int) ∈ TB := tk_7 (List.mem_of_getElem? (i := 230) rfl) rfl
theorem w_1770 : Cond.methodLink RX11 326 yX11_write ∈ TB := tk_7 (List.mem_of_getElem? (i := 231) rfl) rfl
theorem w_1772 : Cond.instanceMethod yX11_write ∈ TB := tk_7 (List.mem_of_getElem? (i := 233) rfl) rfl
theorem w_1773 : Cond.code yX11_write cX11_write 3 none ∈ TB := tk_7 (List.mem_of_getElem? (i := 234) rfl) rfl
theorem w_1778 : Cond.methodLink RX11 362 yX11_isPlayed ∈ TB := tk_7 (List.mem_of_getElem? (i := 239) rfl) rfl
theorem w_1780 : Cond.instanceMethod yX11_isPlayed ∈ TB := tk_8 (List.mem_of_getElem? (i := 1) rfl) rfl
theorem w_1781 : Cond.code yX11_isPlayed cX11_isPlayed 4 (some .boolean) ∈ TB := tk_8 (List.mem_of_getElem? (i := 2) rfl) rfl
theorem w_1782 : Cond.methodLink RX11 347 yX11_person ∈ TB := tk_8 (List.mem_of_getElem? (i := 3) rfl) rfl
theorem w_1783 : Cond.methodLink RX11 350 yX11_ring ∈ TB := tk_8 (List.mem_of_getElem? (i := 4) rfl) rfl
theorem w_1784 : Cond.methodLink RX11 353 yX11_due ∈ TB := tk_8 (List.mem_of_getElem? (i := 5) rfl) rfl
theorem w_1785 : Cond.methodLink RX11 356 yX11_bed ∈ TB := tk_8 (List.mem_of_getElem? (i := 6) rfl) rfl
theorem w_1786 : Cond.methodLink RX11 359 yX11_up ∈ TB := tk_8 (List.mem_of_getElem? (i := 7) rfl) rfl
theorem w_1791 : Cond.methodLink RX11 365 yX11_happens ∈ TB := tk_8 (List.mem_of_getElem? (i := 12) rfl) rfl
theorem w_1793 : Cond.instanceMethod yX11_happens ∈ TB := tk_8 (List.mem_of_getElem? (i := 14) rfl) rfl
theorem w_1794 : Cond.code yX11_happens cX11_happens 3 none ∈ TB := tk_8 (List.mem_of_getElem? (i := 15) rfl) rfl
theorem w_1799 : Cond.methodLink RX11 368 yX11_runningNow ∈ TB := tk_8 (List.mem_of_getElem? (i := 20) rfl) rfl
theorem w_1801 : Cond.instanceMethod yX11_runningNow ∈ TB := tk_8 (List.mem_of_getElem? (i := 22) rfl) rfl
theorem w_1802 : Cond.code yX11_runningNow cX11_runningNow 1 (some .int) ∈ TB := tk_8 (List.mem_of_getElem? (i := 23) rfl) rfl
theorem w_1803 : Cond.methodLink RX11 371 yX11_takesNow ∈ TB := tk_8 (List.mem_of_getElem? (i := 24) rfl) rfl
theorem w_1805 : Cond.instanceMethod yX11_takesNow ∈ TB := tk_8 (List.mem_of_getElem? (i := 26) rfl) rfl
theorem w_1806 : Cond.code yX11_takesNow cX11_takesNow 3 (some .int) ∈ TB := tk_8 (List.mem_of_getElem? (i := 27) rfl) rfl
theorem w_1812 : Cond.instanceMethod yX11_book ∈ TB := tk_8 (List.mem_of_getElem? (i := 33) rfl) rfl
theorem w_1813 : Cond.selects RX11 yX11_book yX11_book ∈ TB := tk_8 (List.mem_of_getElem? (i := 34) rfl) rfl
theorem w_1814 : Cond.code yX11_book cX11_book 5 (some .int) ∈ TB := tk_8 (List.mem_of_getElem? (i := 35) rfl) rfl
theorem w_1819 : Cond.methodLink RX11 374 yX11_book ∈ TB := tk_8 (List.mem_of_getElem? (i := 40) rfl) rfl
theorem w_1848 : Cond.methodLink RX11 377 yX11_layLeads ∈ TB := tk_8 (List.mem_of_getElem? (i := 69) rfl) rfl
theorem w_1850 : Cond.instanceMethod yX11_layLeads ∈ TB := tk_8 (List.mem_of_getElem? (i := 71) rfl) rfl
theorem w_1851 : Cond.code yX11_layLeads cX11_layLeads 2 none ∈ TB := tk_8 (List.mem_of_getElem? (i := 72) rfl) rfl
theorem w_1860 : Cond.methodLink RX11 380 yX11_goneFrom ∈ TB := tk_8 (List.mem_of_getElem? (i := 81) rfl) rfl
theorem w_1862 : Cond.instanceMethod yX11_goneFrom ∈ TB := tk_8 (List.mem_of_getElem? (i := 83) rfl) rfl
theorem w_1863 : Cond.code yX11_goneFrom cX11_goneFrom 5 (some .int) ∈ TB := tk_8 (List.mem_of_getElem? (i := 84) rfl) rfl
theorem w_1864 : Cond.methodLink RX11 383 yX11_isRound ∈ TB := tk_8 (List.mem_of_getElem? (i := 85) rfl) rfl
theorem w_1866 : Cond.instanceMethod yX11_isRound ∈ TB := tk_8 (List.mem_of_getElem? (i := 87) rfl) rfl
theorem w_1867 : Cond.code yX11_isRound cX11_isRound 4 (some .boolean) ∈ TB := tk_8 (List.mem_of_getElem? (i := 88) rfl) rfl
theorem w_1880 : Cond.methodLink RX11 386 yX11_timesTo ∈ TB := tk_8 (List.mem_of_getElem? (i := 101) rfl) rfl
theorem w_1882 : Cond.instanceMethod yX11_timesTo ∈ TB := tk_8 (List.mem_of_getElem? (i := 103) rfl) rfl
theorem w_1883 : Cond.code yX11_timesTo cX11_timesTo 5 (some .int) ∈ TB := tk_8 (List.mem_of_getElem? (i := 104) rfl) rfl
theorem w_1924 : Cond.methodLink RX11 389 yX11_isNeedless ∈ TB := tk_8 (List.mem_of_getElem? (i := 145) rfl) rfl
theorem w_1926 : Cond.instanceMethod yX11_isNeedless ∈ TB := tk_8 (List.mem_of_getElem? (i := 147) rfl) rfl
theorem w_1927 : Cond.code yX11_isNeedless cX11_isNeedless 2 (some .boolean) ∈ TB := tk_8 (List.mem_of_getElem? (i := 148) rfl) rfl
theorem w_1936 : Cond.methodLink RX11 392 yX11_chosen ∈ TB := tk_8 (List.mem_of_getElem? (i := 157) rfl) rfl
theorem w_1937 : Cond.static yX11_chosen ∈ TB := tk_8 (List.mem_of_getElem? (i := 158) rfl) rfl
theorem w_1938 : Cond.code yX11_chosen cX11_chosen 3 (some .int) ∈ TB := tk_8 (List.mem_of_getElem? (i := 159) rfl) rfl
theorem w_1947 : Cond.methodLink RX11 395 yX11_layDays ∈ TB := tk_8 (List.mem_of_getElem? (i := 168) rfl) rfl
theorem w_1949 : Cond.instanceMethod yX11_layDays ∈ TB := tk_8 (List.mem_of_getElem? (i := 170) rfl) rfl
theorem w_1950 : Cond.code yX11_layDays cX11_layDays 5 (some .int) ∈ TB := tk_8 (List.mem_of_getElem? (i := 171) rfl) rfl
theorem w_1951 : Cond.methodLink RX11 398 yX11_divisor ∈ TB := tk_8 (List.mem_of_getElem? (i := 172) rfl) rfl
theorem w_1952 : Cond.static yX11_divisor ∈ TB := tk_8 (List.mem_of_getElem? (i := 173) rfl) rfl
theorem w_1953 : Cond.code yX11_divisor cX11_divisor 5 (some .int) ∈ TB := tk_8 (List.mem_of_getElem? (i := 174) rfl) rfl
theorem w_1962 : Cond.constant RX11 401 (1000000) ∈ TB := tk_8 (List.mem_of_getElem? (i := 183) rfl) rfl
theorem w_1963 : Cond.methodLink RX11 402 yX11_asksBy ∈ TB := tk_8 (List.mem_of_getElem? (i := 184) rfl) rfl
theorem w_1965 : Cond.instanceMethod yX11_asksBy ∈ TB := tk_8 (List.mem_of_getElem? (i := 186) rfl) rfl
theorem w_1966 : Cond.code yX11_asksBy cX11_asksBy 6 (some .int) ∈ TB := tk_8 (List.mem_of_getElem? (i := 187) rfl) rfl
theorem w_1971 : Cond.methodLink RX11 411 yX11_leastAsleep ∈ TB := tk_8 (List.mem_of_getElem? (i := 192) rfl) rfl
theorem w_1973 : Cond.instanceMethod yX11_leastAsleep ∈ TB := tk_8 (List.mem_of_getElem? (i := 194) rfl) rfl
theorem w_1974 : Cond.code yX11_leastAsleep cX11_leastAsleep 4 (some .int) ∈ TB := tk_8 (List.mem_of_getElem? (i := 195) rfl) rfl
theorem w_1975 : Cond.methodLink RX11 405 yX11_inBed ∈ TB := tk_8 (List.mem_of_getElem? (i := 196) rfl) rfl
theorem w_1977 : Cond.instanceMethod yX11_inBed ∈ TB := tk_8 (List.mem_of_getElem? (i := 198) rfl) rfl
theorem w_1978 : Cond.code yX11_inBed cX11_inBed 3 (some .int) ∈ TB := tk_8 (List.mem_of_getElem? (i := 199) rfl) rfl
theorem w_1979 : Cond.methodLink RX11 408 yX11_layBeds ∈ TB := tk_8 (List.mem_of_getElem? (i := 200) rfl) rfl
theorem w_1981 : Cond.instanceMethod yX11_layBeds ∈ TB := tk_8 (List.mem_of_getElem? (i := 202) rfl) rfl
theorem w_1982 : Cond.code yX11_layBeds cX11_layBeds 3 none ∈ TB := tk_8 (List.mem_of_getElem? (i := 203) rfl) rfl
theorem w_2015 : Cond.fieldLink RJ0 9 RJ0 "value" "[B" ∈ TB := tk_8 (List.mem_of_getElem? (i := 236) rfl) rfl
theorem w_2016 : Cond.fieldLink RJ0 15 RJ0 "coder" "B" ∈ TB := tk_8 (List.mem_of_getElem? (i := 237) rfl) rfl
theorem kb_m2 : (Int8.ofInt (-2)).toInt32 = (-2) := by decide
theorem kb_6 : (Int8.ofInt 6).toInt32 = 6 := by decide
theorem kb_7 : (Int8.ofInt 7).toInt32 = 7 := by decide
theorem kb_8 : (Int8.ofInt 8).toInt32 = 8 := by decide
theorem kb_9 : (Int8.ofInt 9).toInt32 = 9 := by decide
theorem kb_10 : (Int8.ofInt 10).toInt32 = 10 := by decide
theorem kb_11 : (Int8.ofInt 11).toInt32 = 11 := by decide
theorem kb_12 : (Int8.ofInt 12).toInt32 = 12 := by decide
theorem kb_13 : (Int8.ofInt 13).toInt32 = 13 := by decide
theorem kb_14 : (Int8.ofInt 14).toInt32 = 14 := by decide
theorem kb_15 : (Int8.ofInt 15).toInt32 = 15 := by decide
theorem kb_16 : (Int8.ofInt 16).toInt32 = 16 := by decide
theorem kb_17 : (Int8.ofInt 17).toInt32 = 17 := by decide
theorem kb_19 : (Int8.ofInt 19).toInt32 = 19 := by decide
theorem kb_20 : (Int8.ofInt 20).toInt32 = 20 := by decide
theorem kb_21 : (Int8.ofInt 21).toInt32 = 21 := by decide
theorem kb_22 : (Int8.ofInt 22).toInt32 = 22 := by decide
theorem kb_23 : (Int8.ofInt 23).toInt32 = 23 := by decide
theorem kb_24 : (Int8.ofInt 24).toInt32 = 24 := by decide
theorem kb_25 : (Int8.ofInt 25).toInt32 = 25 := by decide
theorem kb_29 : (Int8.ofInt 29).toInt32 = 29 := by decide
theorem kb_30 : (Int8.ofInt 30).toInt32 = 30 := by decide
theorem kb_31 : (Int8.ofInt 31).toInt32 = 31 := by decide
theorem kb_32 : (Int8.ofInt 32).toInt32 = 32 := by decide
theorem kb_33 : (Int8.ofInt 33).toInt32 = 33 := by decide
theorem kb_35 : (Int8.ofInt 35).toInt32 = 35 := by decide
theorem kb_36 : (Int8.ofInt 36).toInt32 = 36 := by decide
theorem kb_37 : (Int8.ofInt 37).toInt32 = 37 := by decide
theorem kb_40 : (Int8.ofInt 40).toInt32 = 40 := by decide
theorem kb_41 : (Int8.ofInt 41).toInt32 = 41 := by decide
theorem kb_42 : (Int8.ofInt 42).toInt32 = 42 := by decide
theorem kb_43 : (Int8.ofInt 43).toInt32 = 43 := by decide
theorem kb_45 : (Int8.ofInt 45).toInt32 = 45 := by decide
theorem kb_47 : (Int8.ofInt 47).toInt32 = 47 := by decide
theorem kb_48 : (Int8.ofInt 48).toInt32 = 48 := by decide
theorem kb_50 : (Int8.ofInt 50).toInt32 = 50 := by decide
theorem kb_51 : (Int8.ofInt 51).toInt32 = 51 := by decide
theorem kb_52 : (Int8.ofInt 52).toInt32 = 52 := by decide
theorem kb_57 : (Int8.ofInt 57).toInt32 = 57 := by decide
theorem kb_59 : (Int8.ofInt 59).toInt32 = 59 := by decide
theorem kb_60 : (Int8.ofInt 60).toInt32 = 60 := by decide
theorem kb_61 : (Int8.ofInt 61).toInt32 = 61 := by decide
theorem kb_62 : (Int8.ofInt 62).toInt32 = 62 := by decide
theorem kb_63 : (Int8.ofInt 63).toInt32 = 63 := by decide
theorem kb_65 : (Int8.ofInt 65).toInt32 = 65 := by decide
theorem kb_67 : (Int8.ofInt 67).toInt32 = 67 := by decide
theorem kb_75 : (Int8.ofInt 75).toInt32 = 75 := by decide
theorem kb_90 : (Int8.ofInt 90).toInt32 = 90 := by decide
theorem kb_91 : (Int8.ofInt 91).toInt32 = 91 := by decide
theorem kb_97 : (Int8.ofInt 97).toInt32 = 97 := by decide
theorem kb_98 : (Int8.ofInt 98).toInt32 = 98 := by decide
theorem kb_99 : (Int8.ofInt 99).toInt32 = 99 := by decide
theorem kb_100 : (Int8.ofInt 100).toInt32 = 100 := by decide
theorem kb_101 : (Int8.ofInt 101).toInt32 = 101 := by decide
theorem kb_102 : (Int8.ofInt 102).toInt32 = 102 := by decide
theorem kb_103 : (Int8.ofInt 103).toInt32 = 103 := by decide
theorem kb_104 : (Int8.ofInt 104).toInt32 = 104 := by decide
theorem kb_105 : (Int8.ofInt 105).toInt32 = 105 := by decide
theorem kb_106 : (Int8.ofInt 106).toInt32 = 106 := by decide
theorem kb_107 : (Int8.ofInt 107).toInt32 = 107 := by decide
theorem kb_108 : (Int8.ofInt 108).toInt32 = 108 := by decide
theorem kb_109 : (Int8.ofInt 109).toInt32 = 109 := by decide
theorem kb_110 : (Int8.ofInt 110).toInt32 = 110 := by decide
theorem kb_111 : (Int8.ofInt 111).toInt32 = 111 := by decide
theorem kb_112 : (Int8.ofInt 112).toInt32 = 112 := by decide
theorem kb_114 : (Int8.ofInt 114).toInt32 = 114 := by decide
theorem kb_115 : (Int8.ofInt 115).toInt32 = 115 := by decide
theorem kb_116 : (Int8.ofInt 116).toInt32 = 116 := by decide
theorem kb_117 : (Int8.ofInt 117).toInt32 = 117 := by decide
theorem kb_119 : (Int8.ofInt 119).toInt32 = 119 := by decide
theorem kb_120 : (Int8.ofInt 120).toInt32 = 120 := by decide
theorem kb_121 : (Int8.ofInt 121).toInt32 = 121 := by decide
theorem kb_122 : (Int8.ofInt 122).toInt32 = 122 := by decide
theorem kc_m8 : Int32.ofInt (-8) = (-8) := by decide
theorem kc_m2 : Int32.ofInt (-2) = (-2) := by decide
theorem kc_m1 : Int32.ofInt (-1) = (-1) := by decide
theorem kc_0 : Int32.ofInt 0 = 0 := by decide
theorem kc_1 : Int32.ofInt 1 = 1 := by decide
theorem kc_2 : Int32.ofInt 2 = 2 := by decide
theorem kc_3 : Int32.ofInt 3 = 3 := by decide
theorem kc_4 : Int32.ofInt 4 = 4 := by decide
theorem kc_5 : Int32.ofInt 5 = 5 := by decide
theorem ks_m1000 : (Int16.ofInt (-1000)).toInt32 = (-1000) := by decide
theorem ks_160 : (Int16.ofInt 160).toInt32 = 160 := by decide
theorem ks_197 : (Int16.ofInt 197).toInt32 = 197 := by decide
theorem ks_229 : (Int16.ofInt 229).toInt32 = 229 := by decide
theorem ks_255 : (Int16.ofInt 255).toInt32 = 255 := by decide
theorem ks_256 : (Int16.ofInt 256).toInt32 = 256 := by decide
theorem ks_300 : (Int16.ofInt 300).toInt32 = 300 := by decide
theorem ks_301 : (Int16.ofInt 301).toInt32 = 301 := by decide
theorem ks_330 : (Int16.ofInt 330).toInt32 = 330 := by decide
theorem ks_353 : (Int16.ofInt 353).toInt32 = 353 := by decide
theorem ks_463 : (Int16.ofInt 463).toInt32 = 463 := by decide
theorem ks_729 : (Int16.ofInt 729).toInt32 = 729 := by decide
theorem ks_999 : (Int16.ofInt 999).toInt32 = 999 := by decide
theorem ks_2610 : (Int16.ofInt 2610).toInt32 = 2610 := by decide
theorem ks_2807 : (Int16.ofInt 2807).toInt32 = 2807 := by decide
theorem ks_2867 : (Int16.ofInt 2867).toInt32 = 2867 := by decide
theorem ks_2916 : (Int16.ofInt 2916).toInt32 = 2916 := by decide
theorem ks_4096 : (Int16.ofInt 4096).toInt32 = 4096 := by decide
theorem ks_9999 : (Int16.ofInt 9999).toInt32 = 9999 := by decide
theorem ks_10000 : (Int16.ofInt 10000).toInt32 = 10000 := by decide
theorem ks_30643 : (Int16.ofInt 30643).toInt32 = 30643 := by decide
theorem kc0 : KC 0 RX0 TX0 6 tyX0 := ⟨by decide, rfl, tb_sub [493, 495, 497, 499, 501, 503] (by decide +kernel) (by decide +kernel), tyX0_ok, nmX0, by decide +kernel, by decide +kernel⟩
theorem kc1 : KC 1 RX1 TX1 3 tyX1 := ⟨by decide, rfl, tb_sub [448, 450, 452] (by decide +kernel) (by decide +kernel), tyX1_ok, nmX1, by decide +kernel, by decide +kernel⟩
theorem kc2 : KC 2 RX2 TX2 6 tyX2 := ⟨by decide, rfl, tb_sub [467, 469, 471, 473, 475, 477] (by decide +kernel) (by decide +kernel), tyX2_ok, nmX2, by decide +kernel, by decide +kernel⟩
theorem kc3 : KC 3 RX3 TX3 9 tyX3 := ⟨by decide, rfl, tb_sub [168, 170, 172, 174, 176, 178, 180, 182, 184] (by decide +kernel) (by decide +kernel), tyX3_ok, nmX3, by decide +kernel, by decide +kernel⟩
theorem kc4 : KC 4 RX4 TX4 12 tyX4 := ⟨by decide, rfl, tb_sub [412, 414, 416, 418, 420, 422, 424, 426, 428, 430, 432, 434] (by decide +kernel) (by decide +kernel), tyX4_ok, nmX4, by decide +kernel, by decide +kernel⟩
theorem kc5 : KC 5 RX5 TX5 8 tyX5 := ⟨by decide, rfl, tb_sub [374, 376, 378, 380, 382, 384, 386, 388] (by decide +kernel) (by decide +kernel), tyX5_ok, nmX5, by decide +kernel, by decide +kernel⟩
theorem kc6 : KC 6 RX6 TX6 2 tyX6 := ⟨by decide, rfl, tb_sub [286, 288] (by decide +kernel) (by decide +kernel), tyX6_ok, nmX6, by decide +kernel, by decide +kernel⟩
theorem kc7 : KC 7 RX7 TX7 9 tyX7 := ⟨by decide, rfl, tb_sub [315, 317, 319, 321, 323, 325, 327, 329, 331] (by decide +kernel) (by decide +kernel), tyX7_ok, nmX7, by decide +kernel, by decide +kernel⟩
theorem kc8 : KC 8 RX8 TX8 4 tyX8 := ⟨by decide, rfl, tb_sub [353, 355, 357, 359] (by decide +kernel) (by decide +kernel), tyX8_ok, nmX8, by decide +kernel, by decide +kernel⟩
theorem kc9 : KC 9 RX9 TX9 18 tyX9 := ⟨by decide, rfl, tb_sub [238, 240, 242, 244, 246, 248, 250, 252, 254, 256, 258, 260, 262, 264, 266, 268, 270, 272] (by decide +kernel) (by decide +kernel), tyX9_ok, nmX9, by decide +kernel, by decide +kernel⟩
theorem kc10 : KC 10 RX10 TX10 12 tyX10 := ⟨by decide, rfl, tb_sub [518, 520, 522, 524, 526, 528, 530, 532, 534, 536, 538, 540] (by decide +kernel) (by decide +kernel), tyX10_ok, nmX10, by decide +kernel, by decide +kernel⟩
theorem kc11 : KC 11 RX11 TX11 31 tyX11 := ⟨by decide, rfl, tb_sub [1404, 1406, 1408, 1410, 1412, 1414, 1416, 1418, 1420, 1422, 1424, 1426, 1428, 1430, 1432, 1434, 1436, 1438, 1440, 1442, 1444, 1446, 1448, 1450, 1452, 1454, 1456, 1458, 1460, 1462, 1464] (by decide +kernel) (by decide +kernel), tyX11_ok, nmX11, by decide +kernel, by decide +kernel⟩
theorem ck_X3_41 : LCp RX3 41 := ⟨w_851, w_853, w_852, w_118⟩
theorem ck_X9_87 : LCp RX9 87 := ⟨w_1355, w_853, w_852, w_118⟩
theorem fk_X0_15 : LF RX0 15 0 3 (.array .int) true := ⟨_, _, _, _, kc0, by decide, w_489, rfl, rfl⟩
theorem fk_X0_18 : LF RX0 18 0 4 (.array .int) false := ⟨_, _, _, _, kc0, by decide, w_490, rfl, rfl⟩
theorem fk_X0_21 : LF RX0 21 0 0 (.object "TollsForLate$Town") true := ⟨_, _, _, _, kc0, by decide, w_486, rfl, rfl⟩
theorem fk_X0_25 : LF RX0 25 0 1 (.object "TollsForLate$Leads") true := ⟨_, _, _, _, kc0, by decide, w_487, rfl, rfl⟩
theorem fk_X0_29 : LF RX0 29 0 5 .int false := ⟨_, _, _, _, kc0, by decide, w_491, rfl, rfl⟩
theorem fk_X0_49 : LF RX0 49 9 8 .int false := ⟨_, _, _, _, kc9, by decide, w_215, rfl, rfl⟩
theorem fk_X0_52 : LF RX0 52 9 9 (.array .int) true := ⟨_, _, _, _, kc9, by decide, w_219, rfl, rfl⟩
theorem fk_X0_55 : LF RX0 55 9 10 (.array .int) true := ⟨_, _, _, _, kc9, by decide, w_222, rfl, rfl⟩
theorem fk_X0_67 : LF RX0 67 9 0 .int false := ⟨_, _, _, _, kc9, by decide, w_191, rfl, rfl⟩
theorem fk_X0_9 : LF RX0 9 0 2 (.array .int) true := ⟨_, _, _, _, kc0, by decide, w_488, rfl, rfl⟩
theorem fk_X10_104 : LF RX10 104 10 9 .boolean false := ⟨_, _, _, _, kc10, by decide, w_515, rfl, rfl⟩
theorem fk_X10_108 : LF RX10 108 5 6 .int false := ⟨_, _, _, _, kc5, by decide, w_371, rfl, rfl⟩
theorem fk_X10_111 : LF RX10 111 10 10 .int false := ⟨_, _, _, _, kc10, by decide, w_516, rfl, rfl⟩
theorem fk_X10_114 : LF RX10 114 5 7 .int false := ⟨_, _, _, _, kc5, by decide, w_373, rfl, rfl⟩
theorem fk_X10_117 : LF RX10 117 10 11 .int false := ⟨_, _, _, _, kc10, by decide, w_517, rfl, rfl⟩
theorem fk_X10_12 : LF RX10 12 10 0 (.object "TollsForLate$Town") true := ⟨_, _, _, _, kc10, by decide, w_506, rfl, rfl⟩
theorem fk_X10_120 : LF RX10 120 9 7 .int false := ⟨_, _, _, _, kc9, by decide, w_214, rfl, rfl⟩
theorem fk_X10_149 : LF RX10 149 7 8 .int false := ⟨_, _, _, _, kc7, by decide, w_314, rfl, rfl⟩
theorem fk_X10_16 : LF RX10 16 10 1 (.object "TollsForLate$Town") true := ⟨_, _, _, _, kc10, by decide, w_507, rfl, rfl⟩
theorem fk_X10_160 : LF RX10 160 9 14 (.object "TollsForLate$Moment") true := ⟨_, _, _, _, kc9, by decide, w_233, rfl, rfl⟩
theorem fk_X10_164 : LF RX10 164 3 3 .int false := ⟨_, _, _, _, kc3, by decide, w_154, rfl, rfl⟩
theorem fk_X10_172 : LF RX10 172 9 17 .int false := ⟨_, _, _, _, kc9, by decide, w_237, rfl, rfl⟩
theorem fk_X10_178 : LF RX10 178 9 1 (.array .int) true := ⟨_, _, _, _, kc9, by decide, w_197, rfl, rfl⟩
theorem fk_X10_181 : LF RX10 181 9 3 (.array .int) true := ⟨_, _, _, _, kc9, by decide, w_203, rfl, rfl⟩
theorem fk_X10_184 : LF RX10 184 9 4 (.array .int) true := ⟨_, _, _, _, kc9, by decide, w_206, rfl, rfl⟩
theorem fk_X10_187 : LF RX10 187 3 5 (.array .int) true := ⟨_, _, _, _, kc3, by decide, w_162, rfl, rfl⟩
theorem fk_X10_190 : LF RX10 190 3 1 .int false := ⟨_, _, _, _, kc3, by decide, w_146, rfl, rfl⟩
theorem fk_X10_193 : LF RX10 193 3 6 (.array .int) true := ⟨_, _, _, _, kc3, by decide, w_164, rfl, rfl⟩
theorem fk_X10_202 : LF RX10 202 3 0 .int false := ⟨_, _, _, _, kc3, by decide, w_142, rfl, rfl⟩
theorem fk_X10_205 : LF RX10 205 3 2 .int false := ⟨_, _, _, _, kc3, by decide, w_150, rfl, rfl⟩
theorem fk_X10_208 : LF RX10 208 3 4 .int false := ⟨_, _, _, _, kc3, by decide, w_157, rfl, rfl⟩
theorem fk_X10_211 : LF RX10 211 3 8 .int false := ⟨_, _, _, _, kc3, by decide, w_167, rfl, rfl⟩
theorem fk_X10_22 : LF RX10 22 10 2 (.object "TollsForLate$Tape") true := ⟨_, _, _, _, kc10, by decide, w_508, rfl, rfl⟩
theorem fk_X10_276 : LF RX10 276 4 4 .int false := ⟨_, _, _, _, kc4, by decide, w_402, rfl, rfl⟩
theorem fk_X10_28 : LF RX10 28 10 3 (.array (.object "TollsForLate$Text")) true := ⟨_, _, _, _, kc10, by decide, w_509, rfl, rfl⟩
theorem fk_X10_283 : LF RX10 283 9 0 .int false := ⟨_, _, _, _, kc9, by decide, w_194, rfl, rfl⟩
theorem fk_X10_312 : LF RX10 312 9 8 .int false := ⟨_, _, _, _, kc9, by decide, w_217, rfl, rfl⟩
theorem fk_X10_315 : LF RX10 315 9 9 (.array .int) true := ⟨_, _, _, _, kc9, by decide, w_220, rfl, rfl⟩
theorem fk_X10_318 : LF RX10 318 9 10 (.array .int) true := ⟨_, _, _, _, kc9, by decide, w_223, rfl, rfl⟩
theorem fk_X10_327 : LF RX10 327 0 5 .int false := ⟨_, _, _, _, kc0, by decide, w_492, rfl, rfl⟩
theorem fk_X10_351 : LF RX10 351 4 5 .int false := ⟨_, _, _, _, kc4, by decide, w_404, rfl, rfl⟩
theorem fk_X10_355 : LF RX10 355 9 11 .int false := ⟨_, _, _, _, kc9, by decide, w_225, rfl, rfl⟩
theorem fk_X10_358 : LF RX10 358 9 12 (.array .int) true := ⟨_, _, _, _, kc9, by decide, w_227, rfl, rfl⟩
theorem fk_X10_36 : LF RX10 36 10 4 (.object "TollsForLate$Reader") true := ⟨_, _, _, _, kc10, by decide, w_510, rfl, rfl⟩
theorem fk_X10_361 : LF RX10 361 9 13 (.array .int) true := ⟨_, _, _, _, kc9, by decide, w_229, rfl, rfl⟩
theorem fk_X10_367 : LF RX10 367 4 6 (.object "TollsForLate$Text") false := ⟨_, _, _, _, kc4, by decide, w_406, rfl, rfl⟩
theorem fk_X10_371 : LF RX10 371 9 2 (.array .int) true := ⟨_, _, _, _, kc9, by decide, w_200, rfl, rfl⟩
theorem fk_X10_45 : LF RX10 45 10 5 (.object "TollsForLate$Morning") true := ⟨_, _, _, _, kc10, by decide, w_511, rfl, rfl⟩
theorem fk_X10_54 : LF RX10 54 10 6 (.object "TollsForLate$Deeds") true := ⟨_, _, _, _, kc10, by decide, w_512, rfl, rfl⟩
theorem fk_X10_61 : LF RX10 61 10 7 (.object "TollsForLate$Leads") true := ⟨_, _, _, _, kc10, by decide, w_513, rfl, rfl⟩
theorem fk_X10_70 : LF RX10 70 10 8 (.object "TollsForLate$Beliefs") true := ⟨_, _, _, _, kc10, by decide, w_514, rfl, rfl⟩
theorem fk_X10_81 : LF RX10 81 9 5 (.array .int) true := ⟨_, _, _, _, kc9, by decide, w_208, rfl, rfl⟩
theorem fk_X10_93 : LF RX10 93 6 1 .int false := ⟨_, _, _, _, kc6, by decide, w_285, rfl, rfl⟩
theorem fk_X10_97 : LF RX10 97 9 6 .int false := ⟨_, _, _, _, kc9, by decide, w_210, rfl, rfl⟩
theorem fk_X11_102 : LF RX11 102 11 9 .int false := ⟨_, _, _, _, kc11, by decide, w_1382, rfl, rfl⟩
theorem fk_X11_109 : LF RX11 109 11 10 .int false := ⟨_, _, _, _, kc11, by decide, w_1383, rfl, rfl⟩
theorem fk_X11_116 : LF RX11 116 11 11 .long false := ⟨_, _, _, _, kc11, by decide, w_1384, rfl, rfl⟩
theorem fk_X11_13 : LF RX11 13 11 1 (.array .int) true := ⟨_, _, _, _, kc11, by decide, w_1374, rfl, rfl⟩
theorem fk_X11_141 : LF RX11 141 11 12 .int false := ⟨_, _, _, _, kc11, by decide, w_1385, rfl, rfl⟩
theorem fk_X11_144 : LF RX11 144 11 13 .int false := ⟨_, _, _, _, kc11, by decide, w_1386, rfl, rfl⟩
theorem fk_X11_151 : LF RX11 151 11 14 .int false := ⟨_, _, _, _, kc11, by decide, w_1387, rfl, rfl⟩
theorem fk_X11_154 : LF RX11 154 11 16 .int false := ⟨_, _, _, _, kc11, by decide, w_1389, rfl, rfl⟩
theorem fk_X11_16 : LF RX11 16 11 2 (.array .int) true := ⟨_, _, _, _, kc11, by decide, w_1375, rfl, rfl⟩
theorem fk_X11_164 : LF RX11 164 11 17 .int false := ⟨_, _, _, _, kc11, by decide, w_1390, rfl, rfl⟩
theorem fk_X11_182 : LF RX11 182 11 18 .boolean false := ⟨_, _, _, _, kc11, by decide, w_1391, rfl, rfl⟩
theorem fk_X11_19 : LF RX11 19 11 3 (.array .int) true := ⟨_, _, _, _, kc11, by decide, w_1376, rfl, rfl⟩
theorem fk_X11_22 : LF RX11 22 11 5 .int false := ⟨_, _, _, _, kc11, by decide, w_1378, rfl, rfl⟩
theorem fk_X11_243 : LF RX11 243 11 19 .int false := ⟨_, _, _, _, kc11, by decide, w_1392, rfl, rfl⟩
theorem fk_X11_26 : LF RX11 26 11 6 .int false := ⟨_, _, _, _, kc11, by decide, w_1379, rfl, rfl⟩
theorem fk_X11_267 : LF RX11 267 11 21 .int false := ⟨_, _, _, _, kc11, by decide, w_1394, rfl, rfl⟩
theorem fk_X11_29 : LF RX11 29 11 15 (.array .int) true := ⟨_, _, _, _, kc11, by decide, w_1388, rfl, rfl⟩
theorem fk_X11_32 : LF RX11 32 11 20 (.array .int) true := ⟨_, _, _, _, kc11, by decide, w_1393, rfl, rfl⟩
theorem fk_X11_323 : LF RX11 323 11 25 .int false := ⟨_, _, _, _, kc11, by decide, w_1398, rfl, rfl⟩
theorem fk_X11_35 : LF RX11 35 11 22 (.array .long) true := ⟨_, _, _, _, kc11, by decide, w_1395, rfl, rfl⟩
theorem fk_X11_39 : LF RX11 39 11 23 (.array .boolean) true := ⟨_, _, _, _, kc11, by decide, w_1396, rfl, rfl⟩
theorem fk_X11_43 : LF RX11 43 11 24 .boolean false := ⟨_, _, _, _, kc11, by decide, w_1397, rfl, rfl⟩
theorem fk_X11_47 : LF RX11 47 11 26 (.array .int) true := ⟨_, _, _, _, kc11, by decide, w_1399, rfl, rfl⟩
theorem fk_X11_50 : LF RX11 50 11 27 (.array .int) true := ⟨_, _, _, _, kc11, by decide, w_1400, rfl, rfl⟩
theorem fk_X11_53 : LF RX11 53 11 28 (.array .int) true := ⟨_, _, _, _, kc11, by decide, w_1401, rfl, rfl⟩
theorem fk_X11_56 : LF RX11 56 11 29 (.array .int) true := ⟨_, _, _, _, kc11, by decide, w_1402, rfl, rfl⟩
theorem fk_X11_59 : LF RX11 59 11 30 (.array .int) true := ⟨_, _, _, _, kc11, by decide, w_1403, rfl, rfl⟩
theorem fk_X11_7 : LF RX11 7 11 0 (.array .int) true := ⟨_, _, _, _, kc11, by decide, w_1373, rfl, rfl⟩
theorem fk_X11_86 : LF RX11 86 11 4 .int false := ⟨_, _, _, _, kc11, by decide, w_1377, rfl, rfl⟩
theorem fk_X11_92 : LF RX11 92 11 7 .int false := ⟨_, _, _, _, kc11, by decide, w_1380, rfl, rfl⟩
theorem fk_X11_99 : LF RX11 99 11 8 .int false := ⟨_, _, _, _, kc11, by decide, w_1381, rfl, rfl⟩
theorem fk_X1_12 : LF RX1 12 1 2 (.object "TollsForLate$Moment") true := ⟨_, _, _, _, kc1, by decide, w_447, rfl, rfl⟩
theorem fk_X1_124 : LF RX1 124 9 0 .int false := ⟨_, _, _, _, kc9, by decide, w_193, rfl, rfl⟩
theorem fk_X1_18 : LF RX1 18 1 0 (.object "TollsForLate$Town") true := ⟨_, _, _, _, kc1, by decide, w_445, rfl, rfl⟩
theorem fk_X1_22 : LF RX1 22 1 1 (.object "TollsForLate$Morning") true := ⟨_, _, _, _, kc1, by decide, w_446, rfl, rfl⟩
theorem fk_X1_35 : LF RX1 35 9 14 (.object "TollsForLate$Moment") true := ⟨_, _, _, _, kc9, by decide, w_231, rfl, rfl⟩
theorem fk_X1_38 : LF RX1 38 3 0 .int false := ⟨_, _, _, _, kc3, by decide, w_141, rfl, rfl⟩
theorem fk_X1_45 : LF RX1 45 3 5 (.array .int) true := ⟨_, _, _, _, kc3, by decide, w_159, rfl, rfl⟩
theorem fk_X1_49 : LF RX1 49 3 1 .int false := ⟨_, _, _, _, kc3, by decide, w_144, rfl, rfl⟩
theorem fk_X1_52 : LF RX1 52 3 3 .int false := ⟨_, _, _, _, kc3, by decide, w_153, rfl, rfl⟩
theorem fk_X1_59 : LF RX1 59 3 4 .int false := ⟨_, _, _, _, kc3, by decide, w_156, rfl, rfl⟩
theorem fk_X1_62 : LF RX1 62 3 2 .int false := ⟨_, _, _, _, kc3, by decide, w_149, rfl, rfl⟩
theorem fk_X2_15 : LF RX2 15 2 3 (.array .int) true := ⟨_, _, _, _, kc2, by decide, w_464, rfl, rfl⟩
theorem fk_X2_18 : LF RX2 18 2 4 (.array .int) true := ⟨_, _, _, _, kc2, by decide, w_465, rfl, rfl⟩
theorem fk_X2_21 : LF RX2 21 2 5 .int false := ⟨_, _, _, _, kc2, by decide, w_466, rfl, rfl⟩
theorem fk_X2_25 : LF RX2 25 2 0 (.object "TollsForLate$Town") true := ⟨_, _, _, _, kc2, by decide, w_461, rfl, rfl⟩
theorem fk_X2_29 : LF RX2 29 2 1 (.object "TollsForLate$Morning") true := ⟨_, _, _, _, kc2, by decide, w_462, rfl, rfl⟩
theorem fk_X2_9 : LF RX2 9 2 2 (.array .int) true := ⟨_, _, _, _, kc2, by decide, w_463, rfl, rfl⟩
theorem fk_X3_15 : LF RX3 15 3 5 (.array .int) true := ⟨_, _, _, _, kc3, by decide, w_158, rfl, rfl⟩
theorem fk_X3_19 : LF RX3 19 3 6 (.array .int) true := ⟨_, _, _, _, kc3, by decide, w_163, rfl, rfl⟩
theorem fk_X3_22 : LF RX3 22 3 7 (.array .long) true := ⟨_, _, _, _, kc3, by decide, w_165, rfl, rfl⟩
theorem fk_X3_26 : LF RX3 26 3 0 .int false := ⟨_, _, _, _, kc3, by decide, w_140, rfl, rfl⟩
theorem fk_X3_29 : LF RX3 29 3 1 .int false := ⟨_, _, _, _, kc3, by decide, w_143, rfl, rfl⟩
theorem fk_X3_32 : LF RX3 32 3 2 .int false := ⟨_, _, _, _, kc3, by decide, w_147, rfl, rfl⟩
theorem fk_X3_35 : LF RX3 35 3 3 .int false := ⟨_, _, _, _, kc3, by decide, w_151, rfl, rfl⟩
theorem fk_X3_38 : LF RX3 38 3 8 .int false := ⟨_, _, _, _, kc3, by decide, w_166, rfl, rfl⟩
theorem fk_X3_9 : LF RX3 9 3 4 .int false := ⟨_, _, _, _, kc3, by decide, w_155, rfl, rfl⟩
theorem fk_X4_107 : LF RX4 107 3 5 (.array .int) true := ⟨_, _, _, _, kc3, by decide, w_161, rfl, rfl⟩
theorem fk_X4_110 : LF RX4 110 9 2 (.array .int) true := ⟨_, _, _, _, kc9, by decide, w_199, rfl, rfl⟩
theorem fk_X4_113 : LF RX4 113 9 1 (.array .int) true := ⟨_, _, _, _, kc9, by decide, w_196, rfl, rfl⟩
theorem fk_X4_116 : LF RX4 116 7 5 .int false := ⟨_, _, _, _, kc7, by decide, w_308, rfl, rfl⟩
theorem fk_X4_119 : LF RX4 119 9 4 (.array .int) true := ⟨_, _, _, _, kc9, by decide, w_205, rfl, rfl⟩
theorem fk_X4_122 : LF RX4 122 9 3 (.array .int) true := ⟨_, _, _, _, kc9, by decide, w_202, rfl, rfl⟩
theorem fk_X4_125 : LF RX4 125 4 10 .int false := ⟨_, _, _, _, kc4, by decide, w_410, rfl, rfl⟩
theorem fk_X4_128 : LF RX4 128 4 11 .int false := ⟨_, _, _, _, kc4, by decide, w_411, rfl, rfl⟩
theorem fk_X4_131 : LF RX4 131 7 6 .int false := ⟨_, _, _, _, kc7, by decide, w_310, rfl, rfl⟩
theorem fk_X4_142 : LF RX4 142 7 0 (.array .int) true := ⟨_, _, _, _, kc7, by decide, w_299, rfl, rfl⟩
theorem fk_X4_148 : LF RX4 148 7 1 (.array .int) true := ⟨_, _, _, _, kc7, by decide, w_301, rfl, rfl⟩
theorem fk_X4_15 : LF RX4 15 4 0 (.object "TollsForLate$Town") true := ⟨_, _, _, _, kc4, by decide, w_397, rfl, rfl⟩
theorem fk_X4_19 : LF RX4 19 4 1 (.array (.object "TollsForLate$Text")) true := ⟨_, _, _, _, kc4, by decide, w_398, rfl, rfl⟩
theorem fk_X4_23 : LF RX4 23 9 14 (.object "TollsForLate$Moment") true := ⟨_, _, _, _, kc9, by decide, w_232, rfl, rfl⟩
theorem fk_X4_33 : LF RX4 33 3 3 .int false := ⟨_, _, _, _, kc3, by decide, w_152, rfl, rfl⟩
theorem fk_X4_39 : LF RX4 39 4 3 .int false := ⟨_, _, _, _, kc4, by decide, w_400, rfl, rfl⟩
theorem fk_X4_40 : LF RX4 40 3 2 .int false := ⟨_, _, _, _, kc3, by decide, w_148, rfl, rfl⟩
theorem fk_X4_43 : LF RX4 43 4 4 .int false := ⟨_, _, _, _, kc4, by decide, w_401, rfl, rfl⟩
theorem fk_X4_44 : LF RX4 44 3 1 .int false := ⟨_, _, _, _, kc3, by decide, w_145, rfl, rfl⟩
theorem fk_X4_47 : LF RX4 47 4 5 .int false := ⟨_, _, _, _, kc4, by decide, w_403, rfl, rfl⟩
theorem fk_X4_48 : LF RX4 48 9 7 .int false := ⟨_, _, _, _, kc9, by decide, w_213, rfl, rfl⟩
theorem fk_X4_55 : LF RX4 55 4 6 (.object "TollsForLate$Text") false := ⟨_, _, _, _, kc4, by decide, w_405, rfl, rfl⟩
theorem fk_X4_59 : LF RX4 59 7 3 .int false := ⟨_, _, _, _, kc7, by decide, w_304, rfl, rfl⟩
theorem fk_X4_64 : LF RX4 64 4 7 .int false := ⟨_, _, _, _, kc4, by decide, w_407, rfl, rfl⟩
theorem fk_X4_67 : LF RX4 67 9 0 .int false := ⟨_, _, _, _, kc9, by decide, w_192, rfl, rfl⟩
theorem fk_X4_70 : LF RX4 70 4 8 .int false := ⟨_, _, _, _, kc4, by decide, w_408, rfl, rfl⟩
theorem fk_X4_73 : LF RX4 73 9 5 (.array .int) true := ⟨_, _, _, _, kc9, by decide, w_209, rfl, rfl⟩
theorem fk_X4_82 : LF RX4 82 4 9 .int false := ⟨_, _, _, _, kc4, by decide, w_409, rfl, rfl⟩
theorem fk_X4_89 : LF RX4 89 7 4 .int false := ⟨_, _, _, _, kc7, by decide, w_306, rfl, rfl⟩
theorem fk_X4_9 : LF RX4 9 4 2 (.array .int) true := ⟨_, _, _, _, kc4, by decide, w_399, rfl, rfl⟩
theorem fk_X5_12 : LF RX5 12 5 0 (.object "TollsForLate$Tokens") true := ⟨_, _, _, _, kc5, by decide, w_364, rfl, rfl⟩
theorem fk_X5_21 : LF RX5 21 5 1 (.object "TollsForLate$Text") false := ⟨_, _, _, _, kc5, by decide, w_365, rfl, rfl⟩
theorem fk_X5_28 : LF RX5 28 5 6 .int false := ⟨_, _, _, _, kc5, by decide, w_370, rfl, rfl⟩
theorem fk_X5_32 : LF RX5 32 5 7 .int false := ⟨_, _, _, _, kc5, by decide, w_372, rfl, rfl⟩
theorem fk_X5_39 : LF RX5 39 5 2 .int false := ⟨_, _, _, _, kc5, by decide, w_366, rfl, rfl⟩
theorem fk_X5_45 : LF RX5 45 5 3 .int false := ⟨_, _, _, _, kc5, by decide, w_367, rfl, rfl⟩
theorem fk_X5_58 : LF RX5 58 8 0 (.array .int) true := ⟨_, _, _, _, kc8, by decide, w_347, rfl, rfl⟩
theorem fk_X5_62 : LF RX5 62 8 2 (.array .int) true := ⟨_, _, _, _, kc8, by decide, w_351, rfl, rfl⟩
theorem fk_X5_65 : LF RX5 65 5 4 .int false := ⟨_, _, _, _, kc5, by decide, w_368, rfl, rfl⟩
theorem fk_X5_68 : LF RX5 68 8 1 (.array .int) true := ⟨_, _, _, _, kc8, by decide, w_349, rfl, rfl⟩
theorem fk_X5_78 : LF RX5 78 7 8 .int false := ⟨_, _, _, _, kc7, by decide, w_313, rfl, rfl⟩
theorem fk_X5_85 : LF RX5 85 5 5 .int false := ⟨_, _, _, _, kc5, by decide, w_369, rfl, rfl⟩
theorem fk_X6_15 : LF RX6 15 6 1 .int false := ⟨_, _, _, _, kc6, by decide, w_283, rfl, rfl⟩
theorem fk_X6_9 : LF RX6 9 6 0 (.array .int) true := ⟨_, _, _, _, kc6, by decide, w_281, rfl, rfl⟩
theorem fk_X7_15 : LF RX7 15 7 1 (.array .int) true := ⟨_, _, _, _, kc7, by decide, w_300, rfl, rfl⟩
theorem fk_X7_18 : LF RX7 18 7 7 (.array .int) true := ⟨_, _, _, _, kc7, by decide, w_311, rfl, rfl⟩
theorem fk_X7_21 : LF RX7 21 7 2 .int false := ⟨_, _, _, _, kc7, by decide, w_302, rfl, rfl⟩
theorem fk_X7_25 : LF RX7 25 7 8 .int false := ⟨_, _, _, _, kc7, by decide, w_312, rfl, rfl⟩
theorem fk_X7_28 : LF RX7 28 7 3 .int false := ⟨_, _, _, _, kc7, by decide, w_303, rfl, rfl⟩
theorem fk_X7_31 : LF RX7 31 7 5 .int false := ⟨_, _, _, _, kc7, by decide, w_307, rfl, rfl⟩
theorem fk_X7_38 : LF RX7 38 7 4 .int false := ⟨_, _, _, _, kc7, by decide, w_305, rfl, rfl⟩
theorem fk_X7_41 : LF RX7 41 7 6 .int false := ⟨_, _, _, _, kc7, by decide, w_309, rfl, rfl⟩
theorem fk_X7_9 : LF RX7 9 7 0 (.array .int) true := ⟨_, _, _, _, kc7, by decide, w_298, rfl, rfl⟩
theorem fk_X8_15 : LF RX8 15 8 1 (.array .int) true := ⟨_, _, _, _, kc8, by decide, w_348, rfl, rfl⟩
theorem fk_X8_18 : LF RX8 18 8 2 (.array .int) true := ⟨_, _, _, _, kc8, by decide, w_350, rfl, rfl⟩
theorem fk_X8_21 : LF RX8 21 8 3 .int false := ⟨_, _, _, _, kc8, by decide, w_352, rfl, rfl⟩
theorem fk_X8_25 : LF RX8 25 6 1 .int false := ⟨_, _, _, _, kc6, by decide, w_284, rfl, rfl⟩
theorem fk_X8_38 : LF RX8 38 6 0 (.array .int) true := ⟨_, _, _, _, kc6, by decide, w_282, rfl, rfl⟩
theorem fk_X8_9 : LF RX8 9 8 0 (.array .int) true := ⟨_, _, _, _, kc8, by decide, w_346, rfl, rfl⟩
theorem fk_X9_15 : LF RX9 15 9 2 (.array .int) true := ⟨_, _, _, _, kc9, by decide, w_198, rfl, rfl⟩
theorem fk_X9_18 : LF RX9 18 9 3 (.array .int) true := ⟨_, _, _, _, kc9, by decide, w_201, rfl, rfl⟩
theorem fk_X9_21 : LF RX9 21 9 4 (.array .int) true := ⟨_, _, _, _, kc9, by decide, w_204, rfl, rfl⟩
theorem fk_X9_24 : LF RX9 24 9 5 (.array .int) true := ⟨_, _, _, _, kc9, by decide, w_207, rfl, rfl⟩
theorem fk_X9_27 : LF RX9 27 9 7 .int false := ⟨_, _, _, _, kc9, by decide, w_212, rfl, rfl⟩
theorem fk_X9_31 : LF RX9 31 9 9 (.array .int) true := ⟨_, _, _, _, kc9, by decide, w_218, rfl, rfl⟩
theorem fk_X9_34 : LF RX9 34 9 10 (.array .int) true := ⟨_, _, _, _, kc9, by decide, w_221, rfl, rfl⟩
theorem fk_X9_37 : LF RX9 37 9 12 (.array .int) true := ⟨_, _, _, _, kc9, by decide, w_226, rfl, rfl⟩
theorem fk_X9_40 : LF RX9 40 9 13 (.array .int) true := ⟨_, _, _, _, kc9, by decide, w_228, rfl, rfl⟩
theorem fk_X9_46 : LF RX9 46 9 14 (.object "TollsForLate$Moment") true := ⟨_, _, _, _, kc9, by decide, w_230, rfl, rfl⟩
theorem fk_X9_50 : LF RX9 50 9 15 (.array (.object "TollsForLate$Moment")) true := ⟨_, _, _, _, kc9, by decide, w_234, rfl, rfl⟩
theorem fk_X9_54 : LF RX9 54 9 0 .int false := ⟨_, _, _, _, kc9, by decide, w_190, rfl, rfl⟩
theorem fk_X9_61 : LF RX9 61 3 5 (.array .int) true := ⟨_, _, _, _, kc3, by decide, w_160, rfl, rfl⟩
theorem fk_X9_64 : LF RX9 64 9 17 .int false := ⟨_, _, _, _, kc9, by decide, w_236, rfl, rfl⟩
theorem fk_X9_71 : LF RX9 71 9 16 .int false := ⟨_, _, _, _, kc9, by decide, w_235, rfl, rfl⟩
theorem fk_X9_78 : LF RX9 78 9 6 .int false := ⟨_, _, _, _, kc9, by decide, w_211, rfl, rfl⟩
theorem fk_X9_81 : LF RX9 81 9 8 .int false := ⟨_, _, _, _, kc9, by decide, w_216, rfl, rfl⟩
theorem fk_X9_84 : LF RX9 84 9 11 .int false := ⟨_, _, _, _, kc9, by decide, w_224, rfl, rfl⟩
theorem fk_X9_9 : LF RX9 9 9 1 (.array .int) true := ⟨_, _, _, _, kc9, by decide, w_195, rfl, rfl⟩
theorem maxk_J1_92 : LMx RJ1 92 := ⟨w_683, w_684, w_116, w_685⟩
theorem maxk_X0_62 : LMx RX0 62 := ⟨w_1258, w_684, w_116, w_685⟩
theorem maxk_X10_290 : LMx RX10 290 := ⟨w_1200, w_684, w_116, w_685⟩
theorem maxk_X2_70 : LMx RX2 70 := ⟨w_1231, w_684, w_116, w_685⟩
theorem maxk_X4_139 : LMx RX4 139 := ⟨w_937, w_684, w_116, w_685⟩
theorem mink_J1_38 : LMn RJ1 38 := ⟨w_686, w_662, w_116, w_663⟩
theorem mink_X0_79 : LMn RX0 79 := ⟨w_1288, w_662, w_116, w_663⟩
theorem mink_X10_352 : LMn RX10 352 := ⟨w_1314, w_662, w_116, w_663⟩
theorem mink_X2_76 : LMn RX2 76 := ⟨w_1232, w_662, w_116, w_663⟩
theorem mink_X4_134 : LMn RX4 134 := ⟨w_960, w_662, w_116, w_663⟩
theorem mink_X5_52 : LMn RX5 52 := ⟨w_729, w_662, w_116, w_663⟩
theorem mink_X8_52 : LMn RX8 52 := ⟨w_661, w_662, w_116, w_663⟩
theorem mk_J0_1059 : LSm RJ0 1059 yJ3_checkIndex_8e157 cJ3_checkIndex_8e157 3 (some .int) 3 := ⟨⟨w_632, w_634, w_114, ⟨by decide, by decide, by decide +kernel⟩⟩, w_633⟩
theorem mk_J0_335 : LM RJ0 335 yJ0_coder_7d493 cJ0_coder_7d493 1 (some .byte) 0 ∧ Cond.instanceMethod yJ0_coder_7d493 ∈ TB ∧ Cond.selects yJ0_coder_7d493.cls yJ0_coder_7d493 yJ0_coder_7d493 ∈ TB ∧ yJ0_coder_7d493.cls = "java/lang/String" := ⟨⟨w_610, w_613, w_112, ⟨by decide, by decide, by decide +kernel⟩⟩, w_611, w_612, rfl⟩
theorem mk_J0_492 : LM RJ0 492 yJ0_isLatin1_aae02 cJ0_isLatin1_aae02 1 (some .boolean) 0 ∧ Cond.instanceMethod yJ0_isLatin1_aae02 ∈ TB ∧ Cond.selects yJ0_isLatin1_aae02.cls yJ0_isLatin1_aae02 yJ0_isLatin1_aae02 ∈ TB ∧ yJ0_isLatin1_aae02.cls = "java/lang/String" := ⟨⟨w_620, w_623, w_112, ⟨by decide, by decide, by decide +kernel⟩⟩, w_621, w_622, rfl⟩
theorem mk_J0_495 : LSm RJ0 495 yJ1_charAt_3b067 cJ1_charAt_3b067 2 (some .char) 2 := ⟨⟨w_624, w_626, w_113, ⟨by decide, by decide, by decide +kernel⟩⟩, w_625⟩
theorem mk_J0_505 : LM RJ0 505 yJ0_length_8abf5 cJ0_length_8abf5 1 (some .int) 0 ∧ Cond.instanceMethod yJ0_length_8abf5 ∈ TB ∧ Cond.selects yJ0_length_8abf5.cls yJ0_length_8abf5 yJ0_length_8abf5 ∈ TB ∧ yJ0_length_8abf5.cls = "java/lang/String" := ⟨⟨w_676, w_609, w_112, ⟨by decide, by decide, by decide +kernel⟩⟩, w_607, w_608, rfl⟩
theorem mk_J0_633 : LM RJ0 633 yJ0_indexOf_7cf53 cJ0_indexOf_7cf53 3 (some .int) 2 ∧ Cond.instanceMethod yJ0_indexOf_7cf53 ∈ TB ∧ Cond.selects yJ0_indexOf_7cf53.cls yJ0_indexOf_7cf53 yJ0_indexOf_7cf53 ∈ TB ∧ yJ0_indexOf_7cf53.cls = "java/lang/String" := ⟨⟨w_672, w_675, w_112, ⟨by decide, by decide, by decide +kernel⟩⟩, w_673, w_674, rfl⟩
theorem mk_J0_637 : LSm RJ0 637 yJ1_indexOf_4cfef cJ1_indexOf_4cfef 4 (some .int) 4 := ⟨⟨w_677, w_679, w_113, ⟨by decide, by decide, by decide +kernel⟩⟩, w_678⟩
theorem mk_J1_88 : LSm RJ1 88 yJ1_canEncode_9a6ad cJ1_canEncode_9a6ad 1 (some .boolean) 1 := ⟨⟨w_680, w_682, w_113, ⟨by decide, by decide, by decide +kernel⟩⟩, w_681⟩
theorem mk_J1_9 : LSm RJ1 9 yJ0_checkIndex_df160 cJ0_checkIndex_df160 2 none 2 := ⟨⟨w_627, w_629, w_112, ⟨by decide, by decide, by decide +kernel⟩⟩, w_628⟩
theorem mk_J1_95 : LSm RJ1 95 yJ1_indexOfChar_4cfef cJ1_indexOfChar_4cfef 6 (some .int) 4 := ⟨⟨w_687, w_689, w_113, ⟨by decide, by decide, by decide +kernel⟩⟩, w_688⟩
theorem mk_X0_33 : LVm RX0 33 9 yX9_allRings cX9_allRings 1 (some .int) 0 := ⟨⟨w_1245, w_842, w_101, ⟨by decide, by decide, by decide +kernel⟩⟩, w_840, w_841, by decide, rfl⟩
theorem mk_X0_39 : LVm RX0 39 2 yX2_next cX2_next 2 (some .int) 1 := ⟨⟨w_1246, w_1063, w_109, ⟨by decide, by decide, by decide +kernel⟩⟩, w_1061, w_1062, by decide, rfl⟩
theorem mk_X0_45 : LVm RX0 45 0 yX0_fitsHeard cX0_fitsHeard 3 (some .boolean) 1 := ⟨⟨w_1247, w_1250, w_110, ⟨by decide, by decide, by decide +kernel⟩⟩, w_1249, w_31, by decide, rfl⟩
theorem mk_X0_58 : LSm RX0 58 yX0_commonOf cX0_commonOf 6 (some .int) 2 := ⟨⟨w_1255, w_1257, w_110, ⟨by decide, by decide, by decide +kernel⟩⟩, w_1256⟩
theorem mk_X0_68 : LSm RX0 68 yJ6_bitCount_0f7a4 cJ6_bitCount_0f7a4 1 (some .int) 1 := ⟨⟨w_1279, w_920, w_119, ⟨by decide, by decide, by decide +kernel⟩⟩, w_919⟩
theorem mk_X0_73 : LVm RX0 73 0 yX0_fewestFor cX0_fewestFor 4 (some .int) 1 := ⟨⟨w_1280, w_1283, w_110, ⟨by decide, by decide, by decide +kernel⟩⟩, w_1282, w_32, by decide, rfl⟩
theorem mk_X0_76 : LVm RX0 76 0 yX0_afterAsking cX0_afterAsking 5 (some .int) 2 := ⟨⟨w_1284, w_1287, w_110, ⟨by decide, by decide, by decide +kernel⟩⟩, w_1286, w_33, by decide, rfl⟩
theorem mk_X10_100 : LVm RX10 100 5 yX5_readInto cX5_readInto 5 none 2 := ⟨⟨w_583, w_586, w_105, ⟨by decide, by decide, by decide +kernel⟩⟩, w_584, w_585, by decide, rfl⟩
theorem mk_X10_11 : LIm RX10 11 yX9_init cX9_init 2 0 := ⟨⟨w_130, w_132, w_101, ⟨by decide, by decide, by decide +kernel⟩⟩, w_131, rfl⟩
theorem mk_X10_123 : LVm RX10 123 1 yX1_ringFor cX1_ringFor 2 (some .boolean) 1 := ⟨⟨w_831, w_834, w_108, ⟨by decide, by decide, by decide +kernel⟩⟩, w_832, w_833, by decide, rfl⟩
theorem mk_X10_127 : LVm RX10 127 1 yX1_putOff cX1_putOff 3 (some .boolean) 2 := ⟨⟨w_858, w_861, w_108, ⟨by decide, by decide, by decide +kernel⟩⟩, w_859, w_860, by decide, rfl⟩
theorem mk_X10_131 : LVm RX10 131 1 yX1_goToBed cX1_goToBed 2 (some .boolean) 1 := ⟨⟨w_870, w_873, w_108, ⟨by decide, by decide, by decide +kernel⟩⟩, w_871, w_872, by decide, rfl⟩
theorem mk_X10_134 : LVm RX10 134 1 yX1_getUp cX1_getUp 2 (some .boolean) 1 := ⟨⟨w_878, w_881, w_108, ⟨by decide, by decide, by decide +kernel⟩⟩, w_879, w_880, by decide, rfl⟩
theorem mk_X10_137 : LVm RX10 137 1 yX1_daysThatCanPass cX1_daysThatCanPass 1 (some .int) 0 := ⟨⟨w_886, w_889, w_108, ⟨by decide, by decide, by decide +kernel⟩⟩, w_887, w_888, by decide, rfl⟩
theorem mk_X10_141 : LVm RX10 141 1 yX1_passDays cX1_passDays 4 (some .int) 1 := ⟨⟨w_890, w_893, w_108, ⟨by decide, by decide, by decide +kernel⟩⟩, w_891, w_892, by decide, rfl⟩
theorem mk_X10_145 : LVm RX10 145 4 yX4_textOf cX4_textOf 2 (some (.object "TollsForLate$Text")) 1 := ⟨⟨w_974, w_909, w_107, ⟨by decide, by decide, by decide +kernel⟩⟩, w_907, w_908, by decide, rfl⟩
theorem mk_X10_152 : LVm RX10 152 1 yX1_playClause cX1_playClause 6 (some .boolean) 2 := ⟨⟨w_975, w_978, w_108, ⟨by decide, by decide, by decide +kernel⟩⟩, w_976, w_977, by decide, rfl⟩
theorem mk_X10_156 : LVm RX10 156 1 yX1_draw cX1_draw 5 none 2 := ⟨⟨w_994, w_997, w_108, ⟨by decide, by decide, by decide +kernel⟩⟩, w_995, w_996, by decide, rfl⟩
theorem mk_X10_169 : LVm RX10 169 9 yX9_takeBack cX9_takeBack 1 (some .boolean) 0 := ⟨⟨w_1006, w_1009, w_101, ⟨by decide, by decide, by decide +kernel⟩⟩, w_1007, w_1008, by decide, rfl⟩
theorem mk_X10_175 : LVm RX10 175 9 yX9_isPerson cX9_isPerson 2 (some .boolean) 1 := ⟨⟨w_1014, w_865, w_101, ⟨by decide, by decide, by decide +kernel⟩⟩, w_863, w_864, by decide, rfl⟩
theorem mk_X10_196 : LVm RX10 196 10 yX10_runningNow cX10_runningNow 1 (some .int) 0 := ⟨⟨w_1015, w_1018, w_100, ⟨by decide, by decide, by decide +kernel⟩⟩, w_1017, w_25, by decide, rfl⟩
theorem mk_X10_199 : LVm RX10 199 10 yX10_takesNow cX10_takesNow 2 (some .int) 1 := ⟨⟨w_1025, w_1028, w_100, ⟨by decide, by decide, by decide +kernel⟩⟩, w_1027, w_26, by decide, rfl⟩
theorem mk_X10_21 : LIn RX10 21 yX6_init cX6_init 1 0 := ⟨⟨by decide +kernel, w_279, w_103, ⟨by decide, by decide, by decide +kernel⟩⟩, w_278, rfl⟩
theorem mk_X10_214 : LVm RX10 214 3 yX3_written cX3_written 3 (some .int) 2 := ⟨⟨w_1041, w_1044, w_102, ⟨by decide, by decide, by decide +kernel⟩⟩, w_1042, w_1043, by decide, rfl⟩
theorem mk_X10_218 : LVm RX10 218 1 yX1_foretell cX1_foretell 5 (some .int) 2 := ⟨⟨w_1050, w_1053, w_108, ⟨by decide, by decide, by decide +kernel⟩⟩, w_1051, w_1052, by decide, rfl⟩
theorem mk_X10_221 : LVm RX10 221 9 yX9_areRings cX9_areRings 2 (some .boolean) 1 := ⟨⟨w_1059, w_838, w_101, ⟨by decide, by decide, by decide +kernel⟩⟩, w_836, w_837, by decide, rfl⟩
theorem mk_X10_224 : LVm RX10 224 2 yX2_next cX2_next 2 (some .int) 1 := ⟨⟨w_1060, w_1063, w_109, ⟨by decide, by decide, by decide +kernel⟩⟩, w_1061, w_1062, by decide, rfl⟩
theorem mk_X10_227 : LVm RX10 227 4 yX4_asNow cX4_asNow 1 none 0 := ⟨⟨w_1019, w_1022, w_107, ⟨by decide, by decide, by decide +kernel⟩⟩, w_1020, w_1021, by decide, rfl⟩
theorem mk_X10_230 : LVm RX10 230 4 yX4_runningBy cX4_runningBy 6 (some .int) 1 := ⟨⟨w_1024, w_917, w_107, ⟨by decide, by decide, by decide +kernel⟩⟩, w_915, w_916, by decide, rfl⟩
theorem mk_X10_233 : LVm RX10 233 2 yX2_settledCount cX2_settledCount 3 (some .int) 0 := ⟨⟨w_1074, w_1077, w_109, ⟨by decide, by decide, by decide +kernel⟩⟩, w_1075, w_1076, by decide, rfl⟩
theorem mk_X10_236 : LVm RX10 236 2 yX2_settledAt cX2_settledAt 4 (some .int) 1 := ⟨⟨w_1084, w_1087, w_109, ⟨by decide, by decide, by decide +kernel⟩⟩, w_1085, w_1086, by decide, rfl⟩
theorem mk_X10_239 : LVm RX10 239 2 yX2_settledForFewest cX2_settledForFewest 4 (some .int) 1 := ⟨⟨w_1092, w_1095, w_109, ⟨by decide, by decide, by decide +kernel⟩⟩, w_1093, w_1094, by decide, rfl⟩
theorem mk_X10_243 : LVm RX10 243 2 yX2_tailOf cX2_tailOf 2 (some .int) 1 := ⟨⟨w_1104, w_1107, w_109, ⟨by decide, by decide, by decide +kernel⟩⟩, w_1105, w_1106, by decide, rfl⟩
theorem mk_X10_246 : LVm RX10 246 2 yX2_roundOf cX2_roundOf 5 (some .int) 1 := ⟨⟨w_1120, w_1123, w_109, ⟨by decide, by decide, by decide +kernel⟩⟩, w_1121, w_1122, by decide, rfl⟩
theorem mk_X10_249 : LVm RX10 249 2 yX2_roundCount cX2_roundCount 5 (some .int) 0 := ⟨⟨w_1128, w_1131, w_109, ⟨by decide, by decide, by decide +kernel⟩⟩, w_1129, w_1130, by decide, rfl⟩
theorem mk_X10_252 : LVm RX10 252 2 yX2_basinOf cX2_basinOf 6 (some .int) 1 := ⟨⟨w_1136, w_1139, w_109, ⟨by decide, by decide, by decide +kernel⟩⟩, w_1137, w_1138, by decide, rfl⟩
theorem mk_X10_255 : LVm RX10 255 2 yX2_neverLedTo cX2_neverLedTo 4 (some .int) 0 := ⟨⟨w_1144, w_1147, w_109, ⟨by decide, by decide, by decide +kernel⟩⟩, w_1145, w_1146, by decide, rfl⟩
theorem mk_X10_258 : LVm RX10 258 2 yX2_behind cX2_behind 5 (some .int) 2 := ⟨⟨w_1152, w_1155, w_109, ⟨by decide, by decide, by decide +kernel⟩⟩, w_1153, w_1154, by decide, rfl⟩
theorem mk_X10_261 : LVm RX10 261 2 yX2_timesTill cX2_timesTill 5 (some .int) 2 := ⟨⟨w_1160, w_1163, w_109, ⟨by decide, by decide, by decide +kernel⟩⟩, w_1161, w_1162, by decide, rfl⟩
theorem mk_X10_264 : LVm RX10 264 2 yX2_timesApart cX2_timesApart 6 (some .int) 2 := ⟨⟨w_1168, w_1171, w_109, ⟨by decide, by decide, by decide +kernel⟩⟩, w_1169, w_1170, by decide, rfl⟩
theorem mk_X10_267 : LVm RX10 267 9 yX9_allRings cX9_allRings 1 (some .int) 0 := ⟨⟨w_1176, w_842, w_101, ⟨by decide, by decide, by decide +kernel⟩⟩, w_840, w_841, by decide, rfl⟩
theorem mk_X10_270 : LVm RX10 270 2 yX2_isSettled cX2_isSettled 2 (some .boolean) 1 := ⟨⟨w_1177, w_1082, w_109, ⟨by decide, by decide, by decide +kernel⟩⟩, w_1080, w_1081, by decide, rfl⟩
theorem mk_X10_273 : LVm RX10 273 10 yX10_isSettledByEachWeather cX10_isSettledByEachWeather 3 (some .boolean) 1 := ⟨⟨w_1178, w_1181, w_100, ⟨by decide, by decide, by decide +kernel⟩⟩, w_1180, w_29, by decide, rfl⟩
theorem mk_X10_277 : LVm RX10 277 4 yX4_lateBy cX4_lateBy 6 (some .int) 1 := ⟨⟨w_1182, w_913, w_107, ⟨by decide, by decide, by decide +kernel⟩⟩, w_911, w_912, by decide, rfl⟩
theorem mk_X10_280 : LVm RX10 280 2 yX2_calmest cX2_calmest 4 (some .int) 1 := ⟨⟨w_1187, w_1190, w_109, ⟨by decide, by decide, by decide +kernel⟩⟩, w_1188, w_1189, by decide, rfl⟩
theorem mk_X10_284 : LVm RX10 284 4 yX4_isUp cX4_isUp 2 (some .boolean) 1 := ⟨⟨w_1199, w_927, w_107, ⟨by decide, by decide, by decide +kernel⟩⟩, w_925, w_926, by decide, rfl⟩
theorem mk_X10_287 : LVm RX10 287 4 yX4_takesAmong cX4_takesAmong 3 (some .int) 2 := ⟨⟨w_1029, w_1032, w_107, ⟨by decide, by decide, by decide +kernel⟩⟩, w_1030, w_1031, by decide, rfl⟩
theorem mk_X10_295 : LVm RX10 295 10 yX10_wouldBeInTimeWalking cX10_wouldBeInTimeWalking 3 (some .boolean) 2 := ⟨⟨w_1209, w_1212, w_100, ⟨by decide, by decide, by decide +kernel⟩⟩, w_1211, w_30, by decide, rfl⟩
theorem mk_X10_298 : LVm RX10 298 2 yX2_isLateByAll cX2_isLateByAll 3 (some .boolean) 1 := ⟨⟨w_1219, w_1222, w_109, ⟨by decide, by decide, by decide +kernel⟩⟩, w_1220, w_1221, by decide, rfl⟩
theorem mk_X10_301 : LVm RX10 301 4 yX4_takesOf cX4_takesOf 6 (some .int) 3 := ⟨⟨w_1214, w_959, w_107, ⟨by decide, by decide, by decide +kernel⟩⟩, w_957, w_958, by decide, rfl⟩
theorem mk_X10_305 : LVm RX10 305 4 yX4_jamOf cX4_jamOf 3 (some .int) 2 := ⟨⟨w_1213, w_955, w_107, ⟨by decide, by decide, by decide +kernel⟩⟩, w_953, w_954, by decide, rfl⟩
theorem mk_X10_308 : LVm RX10 308 2 yX2_raced cX2_raced 6 (some .int) 2 := ⟨⟨w_1227, w_1230, w_109, ⟨by decide, by decide, by decide +kernel⟩⟩, w_1228, w_1229, by decide, rfl⟩
theorem mk_X10_32 : LIn RX10 32 yX7_init cX7_init 1 0 := ⟨⟨by decide +kernel, w_296, w_104, ⟨by decide, by decide, by decide +kernel⟩⟩, w_295, rfl⟩
theorem mk_X10_321 : LVm RX10 321 0 yX0_gather cX0_gather 2 none 0 := ⟨⟨w_1241, w_1244, w_110, ⟨by decide, by decide, by decide +kernel⟩⟩, w_1242, w_1243, by decide, rfl⟩
theorem mk_X10_324 : LVm RX10 324 0 yX0_likely cX0_likely 5 (some .int) 2 := ⟨⟨w_1251, w_1254, w_110, ⟨by decide, by decide, by decide +kernel⟩⟩, w_1252, w_1253, by decide, rfl⟩
theorem mk_X10_328 : LVm RX10 328 0 yX0_lateInAll cX0_lateInAll 3 (some .int) 0 := ⟨⟨w_1263, w_1266, w_110, ⟨by decide, by decide, by decide +kernel⟩⟩, w_1264, w_1265, by decide, rfl⟩
theorem mk_X10_331 : LVm RX10 331 0 yX0_lateInNone cX0_lateInNone 3 (some .int) 0 := ⟨⟨w_1267, w_1270, w_110, ⟨by decide, by decide, by decide +kernel⟩⟩, w_1268, w_1269, by decide, rfl⟩
theorem mk_X10_334 : LVm RX10 334 0 yX0_weigh cX0_weigh 3 none 0 := ⟨⟨w_1275, w_1278, w_110, ⟨by decide, by decide, by decide +kernel⟩⟩, w_1276, w_1277, by decide, rfl⟩
theorem mk_X10_337 : LVm RX10 337 0 yX0_firstToAsk cX0_firstToAsk 3 (some .int) 0 := ⟨⟨w_1289, w_1292, w_110, ⟨by decide, by decide, by decide +kernel⟩⟩, w_1290, w_1291, by decide, rfl⟩
theorem mk_X10_340 : LVm RX10 340 0 yX0_mostAsked cX0_mostAsked 1 (some .int) 0 := ⟨⟨w_1293, w_1296, w_110, ⟨by decide, by decide, by decide +kernel⟩⟩, w_1294, w_1295, by decide, rfl⟩
theorem mk_X10_343 : LSm RX10 343 yJ6_bitCount_0f7a4 cJ6_bitCount_0f7a4 1 (some .int) 1 := ⟨⟨w_1301, w_920, w_119, ⟨by decide, by decide, by decide +kernel⟩⟩, w_919⟩
theorem mk_X10_348 : LVm RX10 348 10 yX10_nobodyIsLateWith cX10_nobodyIsLateWith 2 (some .boolean) 1 := ⟨⟨w_1302, w_1305, w_100, ⟨by decide, by decide, by decide +kernel⟩⟩, w_1304, w_34, by decide, rfl⟩
theorem mk_X10_35 : LIn RX10 35 yX5_init cX5_init 1 0 := ⟨⟨by decide +kernel, w_338, w_105, ⟨by decide, by decide, by decide +kernel⟩⟩, w_337, rfl⟩
theorem mk_X10_364 : LVm RX10 364 10 yX10_allSaidIsSoBy cX10_allSaidIsSoBy 4 (some .boolean) 1 := ⟨⟨w_1327, w_1330, w_100, ⟨by decide, by decide, by decide +kernel⟩⟩, w_1329, w_35, by decide, rfl⟩
theorem mk_X10_374 : LVm RX10 374 9 yX9_become cX9_become 3 none 1 := ⟨⟨w_1351, w_1354, w_101, ⟨by decide, by decide, by decide +kernel⟩⟩, w_1352, w_1353, by decide, rfl⟩
theorem mk_X10_42 : LIm RX10 42 yX4_init cX4_init 3 2 := ⟨⟨w_393, w_395, w_107, ⟨by decide, by decide, by decide +kernel⟩⟩, w_394, rfl⟩
theorem mk_X10_51 : LIm RX10 51 yX1_init cX1_init 3 2 := ⟨⟨w_439, w_441, w_108, ⟨by decide, by decide, by decide +kernel⟩⟩, w_440, rfl⟩
theorem mk_X10_60 : LIm RX10 60 yX2_init cX2_init 3 2 := ⟨⟨w_457, w_459, w_109, ⟨by decide, by decide, by decide +kernel⟩⟩, w_458, rfl⟩
theorem mk_X10_67 : LIm RX10 67 yX0_init cX0_init 3 2 := ⟨⟨w_482, w_484, w_110, ⟨by decide, by decide, by decide +kernel⟩⟩, w_483, rfl⟩
theorem mk_X10_74 : LVm RX10 74 2 yX2_forget cX2_forget 1 none 0 := ⟨⟨w_547, w_550, w_109, ⟨by decide, by decide, by decide +kernel⟩⟩, w_548, w_549, by decide, rfl⟩
theorem mk_X10_77 : LVm RX10 77 9 yX9_tell cX9_tell 7 (some .int) 4 := ⟨⟨w_551, w_554, w_101, ⟨by decide, by decide, by decide +kernel⟩⟩, w_552, w_553, by decide, rfl⟩
theorem mk_X10_85 : LVm RX10 85 6 yX6_hasRoomForFive cX6_hasRoomForFive 1 (some .boolean) 0 := ⟨⟨w_567, w_570, w_103, ⟨by decide, by decide, by decide +kernel⟩⟩, w_568, w_569, by decide, rfl⟩
theorem mk_X10_89 : LVm RX10 89 6 yX6_append cX6_append 3 none 1 := ⟨⟨w_571, w_574, w_103, ⟨by decide, by decide, by decide +kernel⟩⟩, w_572, w_573, by decide, rfl⟩
theorem mk_X11_105 : LSm RX11 105 yX11_isFigure cX11_isFigure 1 (some .boolean) 1 := ⟨⟨w_1519, w_1521, w_111, ⟨by decide, by decide, by decide +kernel⟩⟩, w_1520⟩
theorem mk_X11_113 : LSm RX11 113 yX11_isLetterByte cX11_isLetterByte 1 (some .boolean) 1 := ⟨⟨w_1523, w_1525, w_111, ⟨by decide, by decide, by decide +kernel⟩⟩, w_1524⟩
theorem mk_X11_122 : LSm RX11 122 yX11_isSign cX11_isSign 1 (some .boolean) 1 := ⟨⟨w_1527, w_1529, w_111, ⟨by decide, by decide, by decide +kernel⟩⟩, w_1528⟩
theorem mk_X11_125 : LSm RX11 125 yX11_w2 cX11_w2 2 (some .long) 2 := ⟨⟨w_1544, w_1546, w_111, ⟨by decide, by decide, by decide +kernel⟩⟩, w_1545⟩
theorem mk_X11_129 : LSm RX11 129 yX11_w3 cX11_w3 3 (some .long) 3 := ⟨⟨w_1541, w_1543, w_111, ⟨by decide, by decide, by decide +kernel⟩⟩, w_1542⟩
theorem mk_X11_133 : LSm RX11 133 yX11_w4 cX11_w4 4 (some .long) 4 := ⟨⟨w_1538, w_1540, w_111, ⟨by decide, by decide, by decide +kernel⟩⟩, w_1539⟩
theorem mk_X11_137 : LSm RX11 137 yX11_w5 cX11_w5 5 (some .long) 5 := ⟨⟨w_1551, w_1553, w_111, ⟨by decide, by decide, by decide +kernel⟩⟩, w_1552⟩
theorem mk_X11_147 : LVm RX11 147 11 yX11_isWeather cX11_isWeather 1 (some .boolean) 0 := ⟨⟨w_1635, w_1638, w_111, ⟨by decide, by decide, by decide +kernel⟩⟩, w_1637, w_64, by decide, rfl⟩
theorem mk_X11_157 : LSm RX11 157 yX11_rank cX11_rank 1 (some .int) 1 := ⟨⟨w_1608, w_1610, w_111, ⟨by decide, by decide, by decide +kernel⟩⟩, w_1609⟩
theorem mk_X11_160 : LVm RX11 160 11 yX11_emit cX11_emit 3 none 2 := ⟨⟨w_1619, w_1622, w_111, ⟨by decide, by decide, by decide +kernel⟩⟩, w_1621, w_60, by decide, rfl⟩
theorem mk_X11_167 : LVm RX11 167 11 yX11_openAt cX11_openAt 2 (some .int) 0 := ⟨⟨w_1600, w_1603, w_111, ⟨by decide, by decide, by decide +kernel⟩⟩, w_1602, w_56, by decide, rfl⟩
theorem mk_X11_170 : LVm RX11 170 11 yX11_openNow cX11_openNow 1 (some .int) 0 := ⟨⟨w_1596, w_1599, w_111, ⟨by decide, by decide, by decide +kernel⟩⟩, w_1598, w_55, by decide, rfl⟩
theorem mk_X11_173 : LVm RX11 173 11 yX11_nextToken cX11_nextToken 2 none 0 := ⟨⟨w_1511, w_1514, w_111, ⟨by decide, by decide, by decide +kernel⟩⟩, w_1513, w_41, by decide, rfl⟩
theorem mk_X11_176 : LVm RX11 176 11 yX11_nameOf cX11_nameOf 1 (some .int) 0 := ⟨⟨w_1631, w_1634, w_111, ⟨by decide, by decide, by decide +kernel⟩⟩, w_1633, w_63, by decide, rfl⟩
theorem mk_X11_179 : LVm RX11 179 11 yX11_isOf cX11_isOf 2 (some .boolean) 1 := ⟨⟨w_1639, w_1642, w_111, ⟨by decide, by decide, by decide +kernel⟩⟩, w_1641, w_65, by decide, rfl⟩
theorem mk_X11_185 : LVm RX11 185 11 yX11_settle cX11_settle 2 none 1 := ⟨⟨w_1615, w_1618, w_111, ⟨by decide, by decide, by decide +kernel⟩⟩, w_1617, w_59, by decide, rfl⟩
theorem mk_X11_188 : LVm RX11 188 11 yX11_opened cX11_opened 2 (some .int) 1 := ⟨⟨w_1643, w_1646, w_111, ⟨by decide, by decide, by decide +kernel⟩⟩, w_1645, w_66, by decide, rfl⟩
theorem mk_X11_191 : LVm RX11 191 11 yX11_isWord cX11_isWord 3 (some .boolean) 1 := ⟨⟨w_1547, w_1550, w_111, ⟨by decide, by decide, by decide +kernel⟩⟩, w_1549, w_45, by decide, rfl⟩
theorem mk_X11_195 : LVm RX11 195 11 yX11_isAskAhead cX11_isAskAhead 1 (some .boolean) 0 := ⟨⟨w_1647, w_1650, w_111, ⟨by decide, by decide, by decide +kernel⟩⟩, w_1649, w_67, by decide, rfl⟩
theorem mk_X11_198 : LVm RX11 198 11 yX11_isCompared cX11_isCompared 2 (some .boolean) 0 := ⟨⟨w_1604, w_1607, w_111, ⟨by decide, by decide, by decide +kernel⟩⟩, w_1606, w_57, by decide, rfl⟩
theorem mk_X11_201 : LVm RX11 201 11 yX11_compareOf cX11_compareOf 1 (some .int) 0 := ⟨⟨w_1611, w_1614, w_111, ⟨by decide, by decide, by decide +kernel⟩⟩, w_1613, w_58, by decide, rfl⟩
theorem mk_X11_204 : LVm RX11 204 11 yX11_betweenOf cX11_betweenOf 1 (some .int) 0 := ⟨⟨w_1592, w_1595, w_111, ⟨by decide, by decide, by decide +kernel⟩⟩, w_1594, w_54, by decide, rfl⟩
theorem mk_X11_207 : LVm RX11 207 11 yX11_partOf cX11_partOf 2 (some .int) 1 := ⟨⟨w_1623, w_1626, w_111, ⟨by decide, by decide, by decide +kernel⟩⟩, w_1625, w_61, by decide, rfl⟩
theorem mk_X11_210 : LVm RX11 210 11 yX11_behindOne cX11_behindOne 4 (some .boolean) 0 := ⟨⟨w_1588, w_1591, w_111, ⟨by decide, by decide, by decide +kernel⟩⟩, w_1590, w_53, by decide, rfl⟩
theorem mk_X11_213 : LVm RX11 213 11 yX11_beginOne cX11_beginOne 2 (some .int) 0 := ⟨⟨w_1627, w_1630, w_111, ⟨by decide, by decide, by decide +kernel⟩⟩, w_1629, w_62, by decide, rfl⟩
theorem mk_X11_216 : LVm RX11 216 11 yX11_figure cX11_figure 4 (some .int) 3 := ⟨⟨w_1568, w_1571, w_111, ⟨by decide, by decide, by decide +kernel⟩⟩, w_1570, w_48, by decide, rfl⟩
theorem mk_X11_220 : LVm RX11 220 11 yX11_summed cX11_summed 2 (some .int) 0 := ⟨⟨w_1584, w_1587, w_111, ⟨by decide, by decide, by decide +kernel⟩⟩, w_1586, w_52, by decide, rfl⟩
theorem mk_X11_223 : LVm RX11 223 11 yX11_worded cX11_worded 6 (some .int) 4 := ⟨⟨w_1572, w_1575, w_111, ⟨by decide, by decide, by decide +kernel⟩⟩, w_1574, w_49, by decide, rfl⟩
theorem mk_X11_227 : LVm RX11 227 11 yX11_personClause cX11_personClause 3 (some .int) 1 := ⟨⟨w_1564, w_1567, w_111, ⟨by decide, by decide, by decide +kernel⟩⟩, w_1566, w_47, by decide, rfl⟩
theorem mk_X11_230 : LVm RX11 230 11 yX11_dueClause cX11_dueClause 3 (some .int) 1 := ⟨⟨w_1576, w_1579, w_111, ⟨by decide, by decide, by decide +kernel⟩⟩, w_1578, w_50, by decide, rfl⟩
theorem mk_X11_233 : LVm RX11 233 11 yX11_lawClause cX11_lawClause 3 (some .int) 1 := ⟨⟨w_1580, w_1583, w_111, ⟨by decide, by decide, by decide +kernel⟩⟩, w_1582, w_51, by decide, rfl⟩
theorem mk_X11_236 : LSm RX11 236 yX11_w6 cX11_w6 6 (some .long) 6 := ⟨⟨w_1554, w_1556, w_111, ⟨by decide, by decide, by decide +kernel⟩⟩, w_1555⟩
theorem mk_X11_240 : LVm RX11 240 11 yX11_sortOf cX11_sortOf 1 (some .int) 0 := ⟨⟨w_1534, w_1537, w_111, ⟨by decide, by decide, by decide +kernel⟩⟩, w_1536, w_44, by decide, rfl⟩
theorem mk_X11_246 : LSm RX11 246 yX11_has cX11_has 2 (some .boolean) 2 := ⟨⟨w_1557, w_1559, w_111, ⟨by decide, by decide, by decide +kernel⟩⟩, w_1558⟩
theorem mk_X11_250 : LVm RX11 250 11 yX11_body cX11_body 3 (some .int) 2 := ⟨⟨w_1560, w_1563, w_111, ⟨by decide, by decide, by decide +kernel⟩⟩, w_1562, w_46, by decide, rfl⟩
theorem mk_X11_253 : LVm RX11 253 11 yX11_clause cX11_clause 5 (some .int) 0 := ⟨⟨w_1530, w_1533, w_111, ⟨by decide, by decide, by decide +kernel⟩⟩, w_1532, w_43, by decide, rfl⟩
theorem mk_X11_256 : LVm RX11 256 11 yX11_readText cX11_readText 2 (some .int) 0 := ⟨⟨w_1507, w_1510, w_111, ⟨by decide, by decide, by decide +kernel⟩⟩, w_1509, w_40, by decide, rfl⟩
theorem mk_X11_263 : LSm RX11 263 yX11_clip cX11_clip 2 (some .long) 1 := ⟨⟨w_1752, w_1754, w_111, ⟨by decide, by decide, by decide +kernel⟩⟩, w_1753⟩
theorem mk_X11_270 : LVm RX11 270 11 yX11_ringsFor cX11_ringsFor 3 (some .long) 1 := ⟨⟨w_1745, w_1748, w_111, ⟨by decide, by decide, by decide +kernel⟩⟩, w_1747, w_82, by decide, rfl⟩
theorem mk_X11_273 : LSm RX11 273 yX11_two cX11_two 5 (some .long) 3 := ⟨⟨w_1749, w_1751, w_111, ⟨by decide, by decide, by decide +kernel⟩⟩, w_1750⟩
theorem mk_X11_277 : LSm RX11 277 yX11_isAsked cX11_isAsked 5 (some .boolean) 3 := ⟨⟨w_1757, w_1759, w_111, ⟨by decide, by decide, by decide +kernel⟩⟩, w_1758⟩
theorem mk_X11_281 : LSm RX11 281 yX11_joined cX11_joined 3 (some .boolean) 3 := ⟨⟨w_1760, w_1762, w_111, ⟨by decide, by decide, by decide +kernel⟩⟩, w_1761⟩
theorem mk_X11_285 : LVm RX11 285 11 yX11_summedUp cX11_summedUp 10 (some .long) 2 := ⟨⟨w_1741, w_1744, w_111, ⟨by decide, by decide, by decide +kernel⟩⟩, w_1743, w_81, by decide, rfl⟩
theorem mk_X11_288 : LSm RX11 288 yX11_cut cX11_cut 4 (some .int) 3 := ⟨⟨w_1763, w_1765, w_111, ⟨by decide, by decide, by decide +kernel⟩⟩, w_1764⟩
theorem mk_X11_292 : LVm RX11 292 11 yX11_isUp cX11_isUp 2 (some .boolean) 1 := ⟨⟨w_1726, w_1729, w_111, ⟨by decide, by decide, by decide +kernel⟩⟩, w_1728, w_78, by decide, rfl⟩
theorem mk_X11_295 : LVm RX11 295 11 yX11_name cX11_name 3 none 2 := ⟨⟨w_1730, w_1733, w_111, ⟨by decide, by decide, by decide +kernel⟩⟩, w_1732, w_79, by decide, rfl⟩
theorem mk_X11_298 : LSm RX11 298 yX11_bits cX11_bits 3 (some .int) 1 := ⟨⟨w_1734, w_1736, w_111, ⟨by decide, by decide, by decide +kernel⟩⟩, w_1735⟩
theorem mk_X11_301 : LVm RX11 301 11 yX11_says cX11_says 6 (some .int) 4 := ⟨⟨w_1737, w_1740, w_111, ⟨by decide, by decide, by decide +kernel⟩⟩, w_1739, w_80, by decide, rfl⟩
theorem mk_X11_305 : LVm RX11 305 11 yX11_runnersBy cX11_runnersBy 5 (some .int) 2 := ⟨⟨w_1722, w_1725, w_111, ⟨by decide, by decide, by decide +kernel⟩⟩, w_1724, w_77, by decide, rfl⟩
theorem mk_X11_308 : LVm RX11 308 11 yX11_takesOf cX11_takesOf 7 (some .int) 4 := ⟨⟨w_1766, w_1769, w_111, ⟨by decide, by decide, by decide +kernel⟩⟩, w_1768, w_83, by decide, rfl⟩
theorem mk_X11_317 : LVm RX11 317 11 yX11_anew cX11_anew 1 none 0 := ⟨⟨w_1711, w_1714, w_111, ⟨by decide, by decide, by decide +kernel⟩⟩, w_1713, w_75, by decide, rfl⟩
theorem mk_X11_320 : LVm RX11 320 11 yX11_lateBy cX11_lateBy 5 (some .int) 1 := ⟨⟨w_1718, w_1721, w_111, ⟨by decide, by decide, by decide +kernel⟩⟩, w_1720, w_76, by decide, rfl⟩
theorem mk_X11_326 : LVm RX11 326 11 yX11_write cX11_write 3 none 1 := ⟨⟨w_1770, w_1773, w_111, ⟨by decide, by decide, by decide +kernel⟩⟩, w_1772, w_84, by decide, rfl⟩
theorem mk_X11_329 : LVm RX11 329 11 yX11_areRings cX11_areRings 2 (some .boolean) 1 := ⟨⟨w_1667, w_1670, w_111, ⟨by decide, by decide, by decide +kernel⟩⟩, w_1669, w_68, by decide, rfl⟩
theorem mk_X11_332 : LVm RX11 332 11 yX11_keep cX11_keep 4 none 0 := ⟨⟨w_1675, w_1678, w_111, ⟨by decide, by decide, by decide +kernel⟩⟩, w_1677, w_70, by decide, rfl⟩
theorem mk_X11_335 : LVm RX11 335 11 yX11_isPerson cX11_isPerson 2 (some .boolean) 1 := ⟨⟨w_1683, w_1686, w_111, ⟨by decide, by decide, by decide +kernel⟩⟩, w_1685, w_71, by decide, rfl⟩
theorem mk_X11_338 : LVm RX11 338 11 yX11_isLain cX11_isLain 3 (some .boolean) 2 := ⟨⟨w_1691, w_1694, w_111, ⟨by decide, by decide, by decide +kernel⟩⟩, w_1693, w_72, by decide, rfl⟩
theorem mk_X11_341 : LVm RX11 341 11 yX11_pass cX11_pass 3 none 0 := ⟨⟨w_1707, w_1710, w_111, ⟨by decide, by decide, by decide +kernel⟩⟩, w_1709, w_74, by decide, rfl⟩
theorem mk_X11_344 : LVm RX11 344 11 yX11_arePassed cX11_arePassed 3 (some .boolean) 1 := ⟨⟨w_1703, w_1706, w_111, ⟨by decide, by decide, by decide +kernel⟩⟩, w_1705, w_73, by decide, rfl⟩
theorem mk_X11_347 : LVm RX11 347 11 yX11_person cX11_person 6 (some .int) 4 := ⟨⟨w_1782, w_1471, w_111, ⟨by decide, by decide, by decide +kernel⟩⟩, w_1469, w_1470, by decide, rfl⟩
theorem mk_X11_350 : LVm RX11 350 11 yX11_ring cX11_ring 2 (some .boolean) 1 := ⟨⟨w_1783, w_1666, w_111, ⟨by decide, by decide, by decide +kernel⟩⟩, w_1664, w_1665, by decide, rfl⟩
theorem mk_X11_353 : LVm RX11 353 11 yX11_due cX11_due 3 (some .boolean) 2 := ⟨⟨w_1784, w_1682, w_111, ⟨by decide, by decide, by decide +kernel⟩⟩, w_1680, w_1681, by decide, rfl⟩
theorem mk_X11_356 : LVm RX11 356 11 yX11_bed cX11_bed 2 (some .boolean) 1 := ⟨⟨w_1785, w_1690, w_111, ⟨by decide, by decide, by decide +kernel⟩⟩, w_1688, w_1689, by decide, rfl⟩
theorem mk_X11_359 : LVm RX11 359 11 yX11_up cX11_up 2 (some .boolean) 1 := ⟨⟨w_1786, w_1698, w_111, ⟨by decide, by decide, by decide +kernel⟩⟩, w_1696, w_1697, by decide, rfl⟩
theorem mk_X11_362 : LVm RX11 362 11 yX11_isPlayed cX11_isPlayed 4 (some .boolean) 1 := ⟨⟨w_1778, w_1781, w_111, ⟨by decide, by decide, by decide +kernel⟩⟩, w_1780, w_85, by decide, rfl⟩
theorem mk_X11_365 : LVm RX11 365 11 yX11_happens cX11_happens 3 none 1 := ⟨⟨w_1791, w_1794, w_111, ⟨by decide, by decide, by decide +kernel⟩⟩, w_1793, w_86, by decide, rfl⟩
theorem mk_X11_368 : LVm RX11 368 11 yX11_runningNow cX11_runningNow 1 (some .int) 0 := ⟨⟨w_1799, w_1802, w_111, ⟨by decide, by decide, by decide +kernel⟩⟩, w_1801, w_87, by decide, rfl⟩
theorem mk_X11_371 : LVm RX11 371 11 yX11_takesNow cX11_takesNow 3 (some .int) 2 := ⟨⟨w_1803, w_1806, w_111, ⟨by decide, by decide, by decide +kernel⟩⟩, w_1805, w_88, by decide, rfl⟩
theorem mk_X11_374 : LVm RX11 374 11 yX11_book cX11_book 5 (some .int) 2 := ⟨⟨w_1819, w_1814, w_111, ⟨by decide, by decide, by decide +kernel⟩⟩, w_1812, w_1813, by decide, rfl⟩
theorem mk_X11_377 : LVm RX11 377 11 yX11_layLeads cX11_layLeads 2 none 0 := ⟨⟨w_1848, w_1851, w_111, ⟨by decide, by decide, by decide +kernel⟩⟩, w_1850, w_89, by decide, rfl⟩
theorem mk_X11_380 : LVm RX11 380 11 yX11_goneFrom cX11_goneFrom 5 (some .int) 2 := ⟨⟨w_1860, w_1863, w_111, ⟨by decide, by decide, by decide +kernel⟩⟩, w_1862, w_90, by decide, rfl⟩
theorem mk_X11_383 : LVm RX11 383 11 yX11_isRound cX11_isRound 4 (some .boolean) 1 := ⟨⟨w_1864, w_1867, w_111, ⟨by decide, by decide, by decide +kernel⟩⟩, w_1866, w_91, by decide, rfl⟩
theorem mk_X11_386 : LVm RX11 386 11 yX11_timesTo cX11_timesTo 5 (some .int) 2 := ⟨⟨w_1880, w_1883, w_111, ⟨by decide, by decide, by decide +kernel⟩⟩, w_1882, w_92, by decide, rfl⟩
theorem mk_X11_389 : LVm RX11 389 11 yX11_isNeedless cX11_isNeedless 2 (some .boolean) 1 := ⟨⟨w_1924, w_1927, w_111, ⟨by decide, by decide, by decide +kernel⟩⟩, w_1926, w_93, by decide, rfl⟩
theorem mk_X11_392 : LSm RX11 392 yX11_chosen cX11_chosen 3 (some .int) 3 := ⟨⟨w_1936, w_1938, w_111, ⟨by decide, by decide, by decide +kernel⟩⟩, w_1937⟩
theorem mk_X11_395 : LVm RX11 395 11 yX11_layDays cX11_layDays 5 (some .int) 0 := ⟨⟨w_1947, w_1950, w_111, ⟨by decide, by decide, by decide +kernel⟩⟩, w_1949, w_94, by decide, rfl⟩
theorem mk_X11_398 : LSm RX11 398 yX11_divisor cX11_divisor 5 (some .int) 2 := ⟨⟨w_1951, w_1953, w_111, ⟨by decide, by decide, by decide +kernel⟩⟩, w_1952⟩
theorem mk_X11_402 : LVm RX11 402 11 yX11_asksBy cX11_asksBy 6 (some .int) 3 := ⟨⟨w_1963, w_1966, w_111, ⟨by decide, by decide, by decide +kernel⟩⟩, w_1965, w_95, by decide, rfl⟩
theorem mk_X11_405 : LVm RX11 405 11 yX11_inBed cX11_inBed 3 (some .int) 0 := ⟨⟨w_1975, w_1978, w_111, ⟨by decide, by decide, by decide +kernel⟩⟩, w_1977, w_97, by decide, rfl⟩
theorem mk_X11_408 : LVm RX11 408 11 yX11_layBeds cX11_layBeds 3 none 1 := ⟨⟨w_1979, w_1982, w_111, ⟨by decide, by decide, by decide +kernel⟩⟩, w_1981, w_98, by decide, rfl⟩
theorem mk_X11_411 : LVm RX11 411 11 yX11_leastAsleep cX11_leastAsleep 4 (some .int) 0 := ⟨⟨w_1971, w_1974, w_111, ⟨by decide, by decide, by decide +kernel⟩⟩, w_1973, w_96, by decide, rfl⟩
theorem mk_X11_62 : LSm RX11 62 yX11_copy cX11_copy 3 none 2 := ⟨⟨w_1370, w_1372, w_111, ⟨by decide, by decide, by decide +kernel⟩⟩, w_1371⟩
theorem mk_X11_66 : LSm RX11 66 yX11_isIn cX11_isIn 3 (some .boolean) 3 := ⟨⟨w_1472, w_1474, w_111, ⟨by decide, by decide, by decide +kernel⟩⟩, w_1473⟩
theorem mk_X11_70 : LVm RX11 70 11 yX11_all cX11_all 1 (some .int) 0 := ⟨⟨w_1671, w_1674, w_111, ⟨by decide, by decide, by decide +kernel⟩⟩, w_1673, w_69, by decide, rfl⟩
theorem mk_X11_74 : LVm RX11 74 11 yX11_get cX11_get 3 (some .int) 2 := ⟨⟨w_1483, w_1486, w_111, ⟨by decide, by decide, by decide +kernel⟩⟩, w_1485, w_38, by decide, rfl⟩
theorem mk_X11_78 : LVm RX11 78 11 yX11_put cX11_put 4 none 3 := ⟨⟨w_1475, w_1478, w_111, ⟨by decide, by decide, by decide +kernel⟩⟩, w_1477, w_36, by decide, rfl⟩
theorem mk_X11_82 : LVm RX11 82 11 yX11_begin cX11_begin 2 none 1 := ⟨⟨w_1479, w_1482, w_111, ⟨by decide, by decide, by decide +kernel⟩⟩, w_1481, w_37, by decide, rfl⟩
theorem mk_X11_89 : LVm RX11 89 11 yX11_four cX11_four 3 none 1 := ⟨⟨w_1495, w_1498, w_111, ⟨by decide, by decide, by decide +kernel⟩⟩, w_1497, w_39, by decide, rfl⟩
theorem mk_X11_95 : LVm RX11 95 11 yX11_byteAt cX11_byteAt 2 (some .int) 1 := ⟨⟨w_1515, w_1518, w_111, ⟨by decide, by decide, by decide +kernel⟩⟩, w_1517, w_42, by decide, rfl⟩
theorem mk_X1_100 : LVm RX1 100 1 yX1_ringFor cX1_ringFor 2 (some .boolean) 1 := ⟨⟨w_984, w_834, w_108, ⟨by decide, by decide, by decide +kernel⟩⟩, w_832, w_833, by decide, rfl⟩
theorem mk_X1_103 : LVm RX1 103 1 yX1_putOff cX1_putOff 3 (some .boolean) 2 := ⟨⟨w_985, w_861, w_108, ⟨by decide, by decide, by decide +kernel⟩⟩, w_859, w_860, by decide, rfl⟩
theorem mk_X1_107 : LVm RX1 107 1 yX1_goToBed cX1_goToBed 2 (some .boolean) 1 := ⟨⟨w_986, w_873, w_108, ⟨by decide, by decide, by decide +kernel⟩⟩, w_871, w_872, by decide, rfl⟩
theorem mk_X1_11 : LIn RX1 11 yX3_init cX3_init 1 0 := ⟨⟨by decide +kernel, w_138, w_102, ⟨by decide, by decide, by decide +kernel⟩⟩, w_137, rfl⟩
theorem mk_X1_110 : LVm RX1 110 1 yX1_getUp cX1_getUp 2 (some .boolean) 1 := ⟨⟨w_987, w_881, w_108, ⟨by decide, by decide, by decide +kernel⟩⟩, w_879, w_880, by decide, rfl⟩
theorem mk_X1_113 : LVm RX1 113 1 yX1_daysThatCanPass cX1_daysThatCanPass 1 (some .int) 0 := ⟨⟨w_988, w_889, w_108, ⟨by decide, by decide, by decide +kernel⟩⟩, w_887, w_888, by decide, rfl⟩
theorem mk_X1_117 : LVm RX1 117 1 yX1_passDays cX1_passDays 4 (some .int) 1 := ⟨⟨w_989, w_893, w_108, ⟨by decide, by decide, by decide +kernel⟩⟩, w_891, w_892, by decide, rfl⟩
theorem mk_X1_120 : LVm RX1 120 1 yX1_drawOne cX1_drawOne 5 none 2 := ⟨⟨w_998, w_1001, w_108, ⟨by decide, by decide, by decide +kernel⟩⟩, w_1000, w_24, by decide, rfl⟩
theorem mk_X1_26 : LVm RX1 26 9 yX9_areRings cX9_areRings 2 (some .boolean) 1 := ⟨⟨w_835, w_838, w_101, ⟨by decide, by decide, by decide +kernel⟩⟩, w_836, w_837, by decide, rfl⟩
theorem mk_X1_32 : LVm RX1 32 9 yX9_markStep cX9_markStep 1 none 0 := ⟨⟨w_843, w_846, w_101, ⟨by decide, by decide, by decide +kernel⟩⟩, w_844, w_845, by decide, rfl⟩
theorem mk_X1_42 : LVm RX1 42 9 yX9_isPerson cX9_isPerson 2 (some .boolean) 1 := ⟨⟨w_862, w_865, w_101, ⟨by decide, by decide, by decide +kernel⟩⟩, w_863, w_864, by decide, rfl⟩
theorem mk_X1_55 : LVm RX1 55 1 yX1_passOne cX1_passOne 3 (some .int) 1 := ⟨⟨w_894, w_897, w_108, ⟨by decide, by decide, by decide +kernel⟩⟩, w_896, w_19, by decide, rfl⟩
theorem mk_X1_65 : LVm RX1 65 3 yX3_stir cX3_stir 1 none 0 := ⟨⟨w_898, w_901, w_102, ⟨by decide, by decide, by decide +kernel⟩⟩, w_899, w_900, by decide, rfl⟩
theorem mk_X1_68 : LVm RX1 68 4 yX4_asIn cX4_asIn 2 none 1 := ⟨⟨w_902, w_905, w_107, ⟨by decide, by decide, by decide +kernel⟩⟩, w_903, w_904, by decide, rfl⟩
theorem mk_X1_74 : LVm RX1 74 4 yX4_lateBy cX4_lateBy 6 (some .int) 1 := ⟨⟨w_910, w_913, w_107, ⟨by decide, by decide, by decide +kernel⟩⟩, w_911, w_912, by decide, rfl⟩
theorem mk_X1_78 : LVm RX1 78 3 yX3_endDay cX3_endDay 3 none 1 := ⟨⟨w_961, w_964, w_102, ⟨by decide, by decide, by decide +kernel⟩⟩, w_962, w_963, by decide, rfl⟩
theorem mk_X1_82 : LSm RX1 82 yJ6_bitCount_0f7a4 cJ6_bitCount_0f7a4 1 (some .int) 1 := ⟨⟨w_969, w_920, w_119, ⟨by decide, by decide, by decide +kernel⟩⟩, w_919⟩
theorem mk_X1_87 : LVm RX1 87 3 yX3_become cX3_become 2 none 1 := ⟨⟨w_1054, w_850, w_102, ⟨by decide, by decide, by decide +kernel⟩⟩, w_848, w_849, by decide, rfl⟩
theorem mk_X1_90 : LVm RX1 90 7 yX7_numberOf cX7_numberOf 4 (some .int) 2 := ⟨⟨w_979, w_982, w_104, ⟨by decide, by decide, by decide +kernel⟩⟩, w_980, w_981, by decide, rfl⟩
theorem mk_X1_96 : LVm RX1 96 9 yX9_tell cX9_tell 7 (some .int) 4 := ⟨⟨w_983, w_554, w_101, ⟨by decide, by decide, by decide +kernel⟩⟩, w_552, w_553, by decide, rfl⟩
theorem mk_X2_33 : LVm RX2 33 4 yX4_asNow cX4_asNow 1 none 0 := ⟨⟨w_1064, w_1022, w_107, ⟨by decide, by decide, by decide +kernel⟩⟩, w_1020, w_1021, by decide, rfl⟩
theorem mk_X2_38 : LVm RX2 38 4 yX4_lateBy cX4_lateBy 6 (some .int) 1 := ⟨⟨w_1065, w_913, w_107, ⟨by decide, by decide, by decide +kernel⟩⟩, w_911, w_912, by decide, rfl⟩
theorem mk_X2_42 : LVm RX2 42 2 yX2_next cX2_next 2 (some .int) 1 := ⟨⟨w_1083, w_1063, w_109, ⟨by decide, by decide, by decide +kernel⟩⟩, w_1061, w_1062, by decide, rfl⟩
theorem mk_X2_45 : LVm RX2 45 9 yX9_allRings cX9_allRings 1 (some .int) 0 := ⟨⟨w_1078, w_842, w_101, ⟨by decide, by decide, by decide +kernel⟩⟩, w_840, w_841, by decide, rfl⟩
theorem mk_X2_51 : LVm RX2 51 2 yX2_isSettled cX2_isSettled 2 (some .boolean) 1 := ⟨⟨w_1079, w_1082, w_109, ⟨by decide, by decide, by decide +kernel⟩⟩, w_1080, w_1081, by decide, rfl⟩
theorem mk_X2_55 : LSm RX2 55 yX2_isBetter cX2_isBetter 5 (some .boolean) 3 := ⟨⟨w_1096, w_1098, w_109, ⟨by decide, by decide, by decide +kernel⟩⟩, w_1097⟩
theorem mk_X2_59 : LSm RX2 59 yJ6_bitCount_0f7a4 cJ6_bitCount_0f7a4 1 (some .int) 1 := ⟨⟨w_1099, w_920, w_119, ⟨by decide, by decide, by decide +kernel⟩⟩, w_919⟩
theorem mk_X2_64 : LVm RX2 64 2 yX2_clearMarks cX2_clearMarks 2 none 0 := ⟨⟨w_1112, w_1115, w_109, ⟨by decide, by decide, by decide +kernel⟩⟩, w_1114, w_28, by decide, rfl⟩
theorem mk_X2_67 : LVm RX2 67 2 yX2_walkFrom cX2_walkFrom 4 (some .int) 1 := ⟨⟨w_1108, w_1111, w_109, ⟨by decide, by decide, by decide +kernel⟩⟩, w_1110, w_27, by decide, rfl⟩
theorem mk_X3_47 : LVm RX3 47 3 yX3_write cX3_write 2 none 1 := ⟨⟨w_965, w_968, w_102, ⟨by decide, by decide, by decide +kernel⟩⟩, w_967, w_23, by decide, rfl⟩
theorem mk_X4_103 : LVm RX4 103 4 yX4_takesOf cX4_takesOf 6 (some .int) 3 := ⟨⟨w_956, w_959, w_107, ⟨by decide, by decide, by decide +kernel⟩⟩, w_957, w_958, by decide, rfl⟩
theorem mk_X4_145 : LSn RX4 145 yX10_isName cX10_isName 1 (some .boolean) 1 := ⟨⟨by decide +kernel, w_804, w_100, ⟨by decide, by decide, by decide +kernel⟩⟩, w_803⟩
theorem mk_X4_151 : LVm RX4 151 4 yX4_named cX4_named 2 (some .int) 1 := ⟨⟨w_933, w_936, w_107, ⟨by decide, by decide, by decide +kernel⟩⟩, w_935, w_21, by decide, rfl⟩
theorem mk_X4_154 : LVm RX4 154 4 yX4_turned cX4_turned 3 (some .int) 2 := ⟨⟨w_938, w_941, w_107, ⟨by decide, by decide, by decide +kernel⟩⟩, w_940, w_22, by decide, rfl⟩
theorem mk_X4_157 : LSm RX4 157 yX4_compared cX4_compared 3 (some .int) 3 := ⟨⟨w_942, w_944, w_107, ⟨by decide, by decide, by decide +kernel⟩⟩, w_943⟩
theorem mk_X4_160 : LSm RX4 160 yX4_joined cX4_joined 5 (some .int) 3 := ⟨⟨w_945, w_947, w_107, ⟨by decide, by decide, by decide +kernel⟩⟩, w_946⟩
theorem mk_X4_29 : LVm RX4 29 4 yX4_asIn cX4_asIn 2 none 1 := ⟨⟨w_1023, w_905, w_107, ⟨by decide, by decide, by decide +kernel⟩⟩, w_903, w_904, by decide, rfl⟩
theorem mk_X4_51 : LVm RX4 51 4 yX4_textOf cX4_textOf 2 (some (.object "TollsForLate$Text")) 1 := ⟨⟨w_906, w_909, w_107, ⟨by decide, by decide, by decide +kernel⟩⟩, w_907, w_908, by decide, rfl⟩
theorem mk_X4_76 : LSm RX4 76 yJ6_bitCount_0f7a4 cJ6_bitCount_0f7a4 1 (some .int) 1 := ⟨⟨w_918, w_920, w_119, ⟨by decide, by decide, by decide +kernel⟩⟩, w_919⟩
theorem mk_X4_85 : LVm RX4 85 4 yX4_isUp cX4_isUp 2 (some .boolean) 1 := ⟨⟨w_924, w_927, w_107, ⟨by decide, by decide, by decide +kernel⟩⟩, w_925, w_926, by decide, rfl⟩
theorem mk_X4_92 : LVm RX4 92 4 yX4_worked cX4_worked 10 (some .int) 3 := ⟨⟨w_928, w_931, w_107, ⟨by decide, by decide, by decide +kernel⟩⟩, w_930, w_20, by decide, rfl⟩
theorem mk_X4_96 : LVm RX4 96 4 yX4_runningBy cX4_runningBy 6 (some .int) 1 := ⟨⟨w_914, w_917, w_107, ⟨by decide, by decide, by decide +kernel⟩⟩, w_915, w_916, by decide, rfl⟩
theorem mk_X4_99 : LVm RX4 99 4 yX4_jamOf cX4_jamOf 3 (some .int) 2 := ⟨⟨w_952, w_955, w_107, ⟨by decide, by decide, by decide +kernel⟩⟩, w_953, w_954, by decide, rfl⟩
theorem mk_X5_100 : LVm RX5 100 5 yX5_told cX5_told 4 (some .boolean) 3 := ⟨⟨w_809, w_812, w_105, ⟨by decide, by decide, by decide +kernel⟩⟩, w_811, w_18, by decide, rfl⟩
theorem mk_X5_104 : LVm RX5 104 7 yX7_put cX7_put 4 none 2 := ⟨⟨w_813, w_749, w_104, ⟨by decide, by decide, by decide +kernel⟩⟩, w_747, w_748, by decide, rfl⟩
theorem mk_X5_108 : LVm RX5 108 5 yX5_product cX5_product 5 (some .boolean) 1 := ⟨⟨w_754, w_757, w_105, ⟨by decide, by decide, by decide +kernel⟩⟩, w_756, w_7, by decide, rfl⟩
theorem mk_X5_11 : LIn RX5 11 yX8_init cX8_init 1 0 := ⟨⟨by decide +kernel, w_344, w_106, ⟨by decide, by decide, by decide +kernel⟩⟩, w_343, rfl⟩
theorem mk_X5_111 : LVm RX5 111 7 yX7_add cX7_add 3 (some .int) 2 := ⟨⟨w_762, w_765, w_104, ⟨by decide, by decide, by decide +kernel⟩⟩, w_763, w_764, by decide, rfl⟩
theorem mk_X5_114 : LVm RX5 114 5 yX5_one cX5_one 2 (some .boolean) 1 := ⟨⟨w_758, w_761, w_105, ⟨by decide, by decide, by decide +kernel⟩⟩, w_760, w_8, by decide, rfl⟩
theorem mk_X5_117 : LVm RX5 117 5 yX5_opens cX5_opens 2 (some .boolean) 1 := ⟨⟨w_766, w_769, w_105, ⟨by decide, by decide, by decide +kernel⟩⟩, w_768, w_9, by decide, rfl⟩
theorem mk_X5_120 : LVm RX5 120 5 yX5_put cX5_put 2 (some .boolean) 1 := ⟨⟨w_774, w_777, w_105, ⟨by decide, by decide, by decide +kernel⟩⟩, w_776, w_11, by decide, rfl⟩
theorem mk_X5_122 : LVm RX5 122 5 yX5_choice cX5_choice 4 (some .boolean) 1 := ⟨⟨w_778, w_781, w_105, ⟨by decide, by decide, by decide +kernel⟩⟩, w_780, w_12, by decide, rfl⟩
theorem mk_X5_125 : LVm RX5 125 5 yX5_name cX5_name 3 (some .boolean) 0 := ⟨⟨w_798, w_801, w_105, ⟨by decide, by decide, by decide +kernel⟩⟩, w_800, w_16, by decide, rfl⟩
theorem mk_X5_129 : LSn RX5 129 yX10_isName cX10_isName 1 (some .boolean) 1 := ⟨⟨by decide +kernel, w_804, w_100, ⟨by decide, by decide, by decide +kernel⟩⟩, w_803⟩
theorem mk_X5_132 : LVm RX5 132 5 yX5_either cX5_either 5 (some .boolean) 1 := ⟨⟨w_782, w_785, w_105, ⟨by decide, by decide, by decide +kernel⟩⟩, w_784, w_13, by decide, rfl⟩
theorem mk_X5_135 : LVm RX5 135 7 yX7_skipToHere cX7_skipToHere 2 none 1 := ⟨⟨w_794, w_797, w_104, ⟨by decide, by decide, by decide +kernel⟩⟩, w_795, w_796, by decide, rfl⟩
theorem mk_X5_138 : LVm RX5 138 5 yX5_both cX5_both 4 (some .boolean) 1 := ⟨⟨w_786, w_789, w_105, ⟨by decide, by decide, by decide +kernel⟩⟩, w_788, w_14, by decide, rfl⟩
theorem mk_X5_141 : LVm RX5 141 5 yX5_ask cX5_ask 3 (some .boolean) 1 := ⟨⟨w_790, w_793, w_105, ⟨by decide, by decide, by decide +kernel⟩⟩, w_792, w_15, by decide, rfl⟩
theorem mk_X5_20 : LIn RX5 20 yX7_init cX7_init 1 0 := ⟨⟨by decide +kernel, w_296, w_104, ⟨by decide, by decide, by decide +kernel⟩⟩, w_295, rfl⟩
theorem mk_X5_25 : LVm RX5 25 7 yX7_clear cX7_clear 1 none 0 := ⟨⟨w_587, w_590, w_104, ⟨by decide, by decide, by decide +kernel⟩⟩, w_588, w_589, by decide, rfl⟩
theorem mk_X5_35 : LVm RX5 35 8 yX8_cut cX8_cut 4 none 1 := ⟨⟨w_591, w_594, w_106, ⟨by decide, by decide, by decide +kernel⟩⟩, w_592, w_593, by decide, rfl⟩
theorem mk_X5_42 : LVm RX5 42 5 yX5_next cX5_next 1 none 0 := ⟨⟨w_725, w_728, w_105, ⟨by decide, by decide, by decide +kernel⟩⟩, w_727, w_3, by decide, rfl⟩
theorem mk_X5_48 : LVm RX5 48 5 yX5_clause cX5_clause 4 (some .boolean) 1 := ⟨⟨w_730, w_733, w_105, ⟨by decide, by decide, by decide +kernel⟩⟩, w_732, w_4, by decide, rfl⟩
theorem mk_X5_71 : LVm RX5 71 5 yX5_refuse cX5_refuse 2 (some .boolean) 1 := ⟨⟨w_734, w_737, w_105, ⟨by decide, by decide, by decide +kernel⟩⟩, w_736, w_5, by decide, rfl⟩
theorem mk_X5_75 : LVm RX5 75 7 yX7_has cX7_has 2 (some .boolean) 1 := ⟨⟨w_738, w_741, w_104, ⟨by decide, by decide, by decide +kernel⟩⟩, w_739, w_740, by decide, rfl⟩
theorem mk_X5_81 : LVm RX5 81 7 yX7_startClause cX7_startClause 2 none 1 := ⟨⟨w_742, w_745, w_104, ⟨by decide, by decide, by decide +kernel⟩⟩, w_743, w_744, by decide, rfl⟩
theorem mk_X5_88 : LVm RX5 88 5 yX5_sum cX5_sum 5 (some .boolean) 1 := ⟨⟨w_750, w_753, w_105, ⟨by decide, by decide, by decide +kernel⟩⟩, w_752, w_6, by decide, rfl⟩
theorem mk_X5_91 : LVm RX5 91 5 yX5_plain cX5_plain 2 (some .boolean) 1 := ⟨⟨w_805, w_808, w_105, ⟨by decide, by decide, by decide +kernel⟩⟩, w_807, w_17, by decide, rfl⟩
theorem mk_X5_94 : LVm RX5 94 5 yX5_accept cX5_accept 2 (some .boolean) 1 := ⟨⟨w_770, w_773, w_105, ⟨by decide, by decide, by decide +kernel⟩⟩, w_772, w_10, by decide, rfl⟩
theorem mk_X5_97 : LVm RX5 97 7 yX7_endClause cX7_endClause 2 none 1 := ⟨⟨w_814, w_817, w_104, ⟨by decide, by decide, by decide +kernel⟩⟩, w_815, w_816, by decide, rfl⟩
theorem mk_X7_34 : LVm RX7 34 7 yX7_put cX7_put 4 none 2 := ⟨⟨w_746, w_749, w_104, ⟨by decide, by decide, by decide +kernel⟩⟩, w_747, w_748, by decide, rfl⟩
theorem mk_X8_30 : LVm RX8 30 8 yX8_cutOne cX8_cutOne 7 (some .int) 2 := ⟨⟨w_595, w_598, w_106, ⟨by decide, by decide, by decide +kernel⟩⟩, w_597, w_1, by decide, rfl⟩
theorem mk_X8_34 : LVm RX8 34 8 yX8_add cX8_add 4 none 3 := ⟨⟨w_654, w_657, w_106, ⟨by decide, by decide, by decide +kernel⟩⟩, w_656, w_2, by decide, rfl⟩
theorem mk_X8_41 : LSm RX8 41 yX8_isLetter cX8_isLetter 1 (some .boolean) 1 := ⟨⟨w_599, w_601, w_106, ⟨by decide, by decide, by decide +kernel⟩⟩, w_600⟩
theorem mk_X8_45 : LSm RX8 45 yX8_wordOf cX8_wordOf 8 (some .int) 3 := ⟨⟨w_602, w_604, w_106, ⟨by decide, by decide, by decide +kernel⟩⟩, w_603⟩
theorem mk_X8_49 : LSm RX8 49 yX8_isDigit cX8_isDigit 1 (some .boolean) 1 := ⟨⟨w_658, w_660, w_106, ⟨by decide, by decide, by decide +kernel⟩⟩, w_659⟩
theorem mk_X8_58 : LSm RX8 58 yX8_signOf cX8_signOf 3 (some .int) 2 := ⟨⟨w_664, w_666, w_106, ⟨by decide, by decide, by decide +kernel⟩⟩, w_665⟩
theorem mk_X8_63 : LM RX8 63 yJ0_indexOf_0f7a4 cJ0_indexOf_0f7a4 2 (some .int) 1 ∧ Cond.instanceMethod yJ0_indexOf_0f7a4 ∈ TB ∧ Cond.selects yJ0_indexOf_0f7a4.cls yJ0_indexOf_0f7a4 yJ0_indexOf_0f7a4 ∈ TB ∧ yJ0_indexOf_0f7a4.cls = "java/lang/String" := ⟨⟨w_668, w_671, w_112, ⟨by decide, by decide, by decide +kernel⟩⟩, w_669, w_670, rfl⟩
theorem mk_X8_71 : LM RX8 71 yJ0_length_8abf5 cJ0_length_8abf5 1 (some .int) 0 ∧ Cond.instanceMethod yJ0_length_8abf5 ∈ TB ∧ Cond.selects yJ0_length_8abf5.cls yJ0_length_8abf5 yJ0_length_8abf5 ∈ TB ∧ yJ0_length_8abf5.cls = "java/lang/String" := ⟨⟨w_606, w_609, w_112, ⟨by decide, by decide, by decide +kernel⟩⟩, w_607, w_608, rfl⟩
theorem mk_X8_74 : LM RX8 74 yJ0_charAt_5068e cJ0_charAt_5068e 2 (some .char) 1 ∧ Cond.instanceMethod yJ0_charAt_5068e ∈ TB ∧ Cond.selects yJ0_charAt_5068e.cls yJ0_charAt_5068e yJ0_charAt_5068e ∈ TB ∧ yJ0_charAt_5068e.cls = "java/lang/String" := ⟨⟨w_616, w_619, w_112, ⟨by decide, by decide, by decide +kernel⟩⟩, w_617, w_618, rfl⟩
theorem mk_X9_45 : LIn RX9 45 yX3_init cX3_init 1 0 := ⟨⟨by decide +kernel, w_138, w_102, ⟨by decide, by decide, by decide +kernel⟩⟩, w_137, rfl⟩
theorem mk_X9_57 : LVm RX9 57 9 yX9_allRings cX9_allRings 1 (some .int) 0 := ⟨⟨w_839, w_842, w_101, ⟨by decide, by decide, by decide +kernel⟩⟩, w_840, w_841, by decide, rfl⟩
theorem mk_X9_67 : LVm RX9 67 9 yX9_aheadOf cX9_aheadOf 3 (some (.object "TollsForLate$Moment")) 1 := ⟨⟨w_555, w_558, w_101, ⟨by decide, by decide, by decide +kernel⟩⟩, w_557, w_0, by decide, rfl⟩
theorem mk_X9_74 : LVm RX9 74 3 yX3_become cX3_become 2 none 1 := ⟨⟨w_847, w_850, w_102, ⟨by decide, by decide, by decide +kernel⟩⟩, w_848, w_849, by decide, rfl⟩
theorem nk_X10_19 : LN RX10 19 6 2 := ⟨_, _, _, kc6, w_275, w_276, w_103⟩
theorem nk_X10_26 : LN RX10 26 7 9 := ⟨_, _, _, kc7, w_291, w_293, w_104⟩
theorem nk_X10_33 : LN RX10 33 5 8 := ⟨_, _, _, kc5, w_334, w_335, w_105⟩
theorem nk_X10_40 : LN RX10 40 4 12 := ⟨_, _, _, kc4, w_391, w_392, w_107⟩
theorem nk_X10_49 : LN RX10 49 1 3 := ⟨_, _, _, kc1, w_437, w_438, w_108⟩
theorem nk_X10_58 : LN RX10 58 2 6 := ⟨_, _, _, kc2, w_455, w_456, w_109⟩
theorem nk_X10_65 : LN RX10 65 0 6 := ⟨_, _, _, kc0, w_480, w_481, w_110⟩
theorem nk_X10_9 : LN RX10 9 9 18 := ⟨_, _, _, kc9, w_128, w_129, w_101⟩
theorem nk_X1_9 : LN RX1 9 3 9 := ⟨_, _, _, kc3, w_443, w_135, w_102⟩
theorem nk_X5_18 : LN RX5 18 7 9 := ⟨_, _, _, kc7, w_362, w_293, w_104⟩
theorem nk_X5_9 : LN RX5 9 8 4 := ⟨_, _, _, kc8, w_340, w_341, w_106⟩
theorem nk_X9_43 : LN RX9 43 3 9 := ⟨_, _, _, kc3, w_134, w_135, w_102⟩
