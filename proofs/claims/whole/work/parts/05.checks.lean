/-! THE CHECKS, by evaluation -/
theorem ckX0_init : ar_all 0 = true := by decide +kernel
theorem ckX0_forget : ar_all 1 = true := by decide +kernel
theorem ckX0_bodiesRun : ar_all 2 = true := by decide +kernel
theorem ckX0_bodyAt : ar_all 3 = true := by decide +kernel
theorem ckX0_perform : ar_all 4 = true := by decide +kernel
theorem ckX0_noteBegun : ar_all 5 = true := by decide +kernel
theorem ckX0_ownBody : ar_all 6 = true := by decide +kernel
theorem ckX0_kindWithBody : ar_all 7 = true := by decide +kernel
theorem ckX0_runBody_0 : ((am_code 8).drop 0 |>.take 40).all (ar_ent 8) = true := by decide +kernel
theorem ckX0_runBody_1 : ((am_code 8).drop 40 |>.take 40).all (ar_ent 8) = true := by decide +kernel
theorem ckX0_runBody_2 : ((am_code 8).drop 80 |>.take 40).all (ar_ent 8) = true := by decide +kernel
theorem ckX0_runBody_3 : ((am_code 8).drop 120 |>.take 40).all (ar_ent 8) = true := by decide +kernel
theorem ckX0_runBody : ar_all 8 = true := by
  have hm : ar_meth 8 = true := by decide +kernel
  have h : (am_code 8).all (ar_ent 8) = true := ar_pieces 4 40 _ (by decide +kernel) (fun j hj => by
    have hc : j = 0 ∨ j = 1 ∨ j = 2 ∨ j = 3 := by omega
    rcases hc with rfl | rfl | rfl | rfl
    · exact ckX0_runBody_0
    · exact ckX0_runBody_1
    · exact ckX0_runBody_2
    · exact ckX0_runBody_3)
  unfold ar_all
  rw [hm, h]
  rfl
theorem ckX1_init_0 : ((am_code 9).drop 0 |>.take 40).all (ar_ent 9) = true := by decide +kernel
theorem ckX1_init_1 : ((am_code 9).drop 40 |>.take 40).all (ar_ent 9) = true := by decide +kernel
theorem ckX1_init : ar_all 9 = true := by
  have hm : ar_meth 9 = true := by decide +kernel
  have h : (am_code 9).all (ar_ent 9) = true := ar_pieces 2 40 _ (by decide +kernel) (fun j hj => by
    have hc : j = 0 ∨ j = 1 := by omega
    rcases hc with rfl | rfl
    · exact ckX1_init_0
    · exact ckX1_init_1)
  unfold ar_all
  rw [hm, h]
  rfl
theorem ckX1_becomeLike_0 : ((am_code 10).drop 0 |>.take 40).all (ar_ent 10) = true := by decide +kernel
theorem ckX1_becomeLike_1 : ((am_code 10).drop 40 |>.take 40).all (ar_ent 10) = true := by decide +kernel
theorem ckX1_becomeLike_2 : ((am_code 10).drop 80 |>.take 40).all (ar_ent 10) = true := by decide +kernel
theorem ckX1_becomeLike : ar_all 10 = true := by
  have hm : ar_meth 10 = true := by decide +kernel
  have h : (am_code 10).all (ar_ent 10) = true := ar_pieces 3 40 _ (by decide +kernel) (fun j hj => by
    have hc : j = 0 ∨ j = 1 ∨ j = 2 := by omega
    rcases hc with rfl | rfl | rfl
    · exact ckX1_becomeLike_0
    · exact ckX1_becomeLike_1
    · exact ckX1_becomeLike_2)
  unfold ar_all
  rw [hm, h]
  rfl
theorem ckX1_isStuff : ar_all 11 = true := by decide +kernel
theorem ckX1_stuffCount : ar_all 12 = true := by decide +kernel
theorem ckX1_hasRoom : ar_all 13 = true := by decide +kernel
theorem ckX1_addStuff : ar_all 14 = true := by decide +kernel
theorem ckX1_kindOf : ar_all 15 = true := by decide +kernel
theorem ckX1_colourOf : ar_all 16 = true := by decide +kernel
theorem ckX1_aOf : ar_all 17 = true := by decide +kernel
theorem ckX1_cellsLaidWith : ar_all 18 = true := by decide +kernel
theorem ckX1_cellsPlannedWith : ar_all 19 = true := by decide +kernel
theorem ckX1_countOf : ar_all 20 = true := by decide +kernel
theorem ckX1_drawnAt : ar_all 21 = true := by decide +kernel
theorem ckX1_laidAt : ar_all 22 = true := by decide +kernel
theorem ckX1_plannedAt : ar_all 23 = true := by decide +kernel
theorem ckX1_sunAt : ar_all 24 = true := by decide +kernel
theorem ckX1_shadeAt : ar_all 25 = true := by decide +kernel
theorem ckX1_spraysAt : ar_all 26 = true := by decide +kernel
theorem ckX1_laidCount : ar_all 27 = true := by decide +kernel
theorem ckX1_isPlannedBare : ar_all 28 = true := by decide +kernel
theorem ckX1_draw : ar_all 29 = true := by decide +kernel
theorem ckX1_planFor : ar_all 30 = true := by decide +kernel
theorem ckX1_mayBeLaid : ar_all 31 = true := by decide +kernel
theorem ckX1_layOn : ar_all 32 = true := by decide +kernel
theorem ckX1_makeBare : ar_all 33 = true := by decide +kernel
theorem ckX1_takeOver : ar_all 34 = true := by decide +kernel
theorem ckX1_wetness : ar_all 35 = true := by decide +kernel
theorem ckX1_sunnySide : ar_all 36 = true := by decide +kernel
theorem ckX1_hourNow : ar_all 37 = true := by decide +kernel
theorem ckX1_crackCount : ar_all 38 = true := by decide +kernel
theorem ckX1_turnTo : ar_all 39 = true := by decide +kernel
theorem ckX1_driedByAnHour : ar_all 40 = true := by decide +kernel
theorem ckX1_wetBySpray : ar_all 41 = true := by decide +kernel
theorem ckX1_isInSun : ar_all 42 = true := by decide +kernel
theorem ckX1_sprayOnce : ar_all 43 = true := by decide +kernel
theorem ckX1_passHours_0 : ((am_code 44).drop 0 |>.take 40).all (ar_ent 44) = true := by decide +kernel
theorem ckX1_passHours_1 : ((am_code 44).drop 40 |>.take 40).all (ar_ent 44) = true := by decide +kernel
theorem ckX1_passHours : ar_all 44 = true := by
  have hm : ar_meth 44 = true := by decide +kernel
  have h : (am_code 44).all (ar_ent 44) = true := ar_pieces 2 40 _ (by decide +kernel) (fun j hj => by
    have hc : j = 0 ∨ j = 1 := by omega
    rcases hc with rfl | rfl
    · exact ckX1_passHours_0
    · exact ckX1_passHours_1)
  unfold ar_all
  rw [hm, h]
  rfl
theorem ckX1_dryForAnHour : ar_all 45 = true := by decide +kernel
theorem ckX1_seedNow : ar_all 46 = true := by decide +kernel
theorem ckX1_sow : ar_all 47 = true := by decide +kernel
theorem ckX1_drawBelow : ar_all 48 = true := by decide +kernel
theorem ckX1_passDays : ar_all 49 = true := by decide +kernel
theorem ckX2_above : ar_all 50 = true := by decide +kernel
theorem ckX2_isUnder : ar_all 51 = true := by decide +kernel
theorem ckX2_brown : ar_all 52 = true := by decide +kernel
theorem ckX2_freshness : ar_all 53 = true := by decide +kernel
theorem ckX3_init : ar_all 54 = true := by decide +kernel
theorem ckX3_holdsRow : ar_all 55 = true := by decide +kernel
theorem ckX3_holdsStuff : ar_all 56 = true := by decide +kernel
theorem ckX3_stuffHeld : ar_all 57 = true := by decide +kernel
theorem ckX3_rowSize : ar_all 58 = true := by decide +kernel
theorem ckX3_told : ar_all 59 = true := by decide +kernel
theorem ckX3_rowTrouble : ar_all 60 = true := by decide +kernel
theorem ckX3_isOfOtherSort : ar_all 61 = true := by decide +kernel
theorem ckX3_takeNothing : ar_all 62 = true := by decide +kernel
theorem ckX3_takeStuff : ar_all 63 = true := by decide +kernel
theorem ckX3_takeRow : ar_all 64 = true := by decide +kernel
theorem ckX3_hasElement : ar_all 65 = true := by decide +kernel
theorem ckX3_hasElements : ar_all 66 = true := by decide +kernel
theorem ckX3_put : ar_all 67 = true := by decide +kernel
theorem ckX3_cut : ar_all 68 = true := by decide +kernel
theorem ckX3_elementAt : ar_all 69 = true := by decide +kernel
theorem ckX3_toldAt : ar_all 70 = true := by decide +kernel
theorem ckX3_copyTo : ar_all 71 = true := by decide +kernel
theorem ckX4_freshBehind_0 : ((am_code 72).drop 0 |>.take 40).all (ar_ent 72) = true := by decide +kernel
theorem ckX4_freshBehind_1 : ((am_code 72).drop 40 |>.take 40).all (ar_ent 72) = true := by decide +kernel
theorem ckX4_freshBehind : ar_all 72 = true := by
  have hm : ar_meth 72 = true := by decide +kernel
  have h : (am_code 72).all (ar_ent 72) = true := ar_pieces 2 40 _ (by decide +kernel) (fun j hj => by
    have hc : j = 0 ∨ j = 1 := by omega
    rcases hc with rfl | rfl
    · exact ckX4_freshBehind_0
    · exact ckX4_freshBehind_1)
  unfold ar_all
  rw [hm, h]
  rfl
theorem ckX4_hasItsColour : ar_all 73 = true := by decide +kernel
theorem ckX4_beautyBehind : ar_all 74 = true := by decide +kernel
theorem ckX4_looksBehind : ar_all 75 = true := by decide +kernel
theorem ckX4_worstHour : ar_all 76 = true := by decide +kernel
theorem ckX4_looksTogether : ar_all 77 = true := by decide +kernel
theorem ckX4_bestSide : ar_all 78 = true := by decide +kernel
theorem ckX4_bestStuff_0 : ((am_code 79).drop 0 |>.take 40).all (ar_ent 79) = true := by decide +kernel
theorem ckX4_bestStuff_1 : ((am_code 79).drop 40 |>.take 40).all (ar_ent 79) = true := by decide +kernel
theorem ckX4_bestStuff : ar_all 79 = true := by
  have hm : ar_meth 79 = true := by decide +kernel
  have h : (am_code 79).all (ar_ent 79) = true := ar_pieces 2 40 _ (by decide +kernel) (fun j hj => by
    have hc : j = 0 ∨ j = 1 := by omega
    rcases hc with rfl | rfl
    · exact ckX4_bestStuff_0
    · exact ckX4_bestStuff_1)
  unfold ar_all
  rw [hm, h]
  rfl
theorem ckX4_worthLaidNow_0 : ((am_code 80).drop 0 |>.take 40).all (ar_ent 80) = true := by decide +kernel
theorem ckX4_worthLaidNow_1 : ((am_code 80).drop 40 |>.take 40).all (ar_ent 80) = true := by decide +kernel
theorem ckX4_worthLaidNow : ar_all 80 = true := by
  have hm : ar_meth 80 = true := by decide +kernel
  have h : (am_code 80).all (ar_ent 80) = true := ar_pieces 2 40 _ (by decide +kernel) (fun j hj => by
    have hc : j = 0 ∨ j = 1 := by omega
    rcases hc with rfl | rfl
    · exact ckX4_worthLaidNow_0
    · exact ckX4_worthLaidNow_1)
  unfold ar_all
  rw [hm, h]
  rfl
theorem ckX4_nextCell : ar_all 81 = true := by decide +kernel
theorem ckX4_firstDryHour : ar_all 82 = true := by decide +kernel
theorem ckX4_spraysNeeded : ar_all 83 = true := by decide +kernel
theorem ckX4_stuffsAsFresh : ar_all 84 = true := by decide +kernel
theorem ckX4_hourAsTold : ar_all 85 = true := by decide +kernel
theorem ckX4_isAsTold : ar_all 86 = true := by decide +kernel
theorem ckX4_coloursLacking_0 : ((am_code 87).drop 0 |>.take 40).all (ar_ent 87) = true := by decide +kernel
theorem ckX4_coloursLacking_1 : ((am_code 87).drop 40 |>.take 40).all (ar_ent 87) = true := by decide +kernel
theorem ckX4_coloursLacking : ar_all 87 = true := by
  have hm : ar_meth 87 = true := by decide +kernel
  have h : (am_code 87).all (ar_ent 87) = true := ar_pieces 2 40 _ (by decide +kernel) (fun j hj => by
    have hc : j = 0 ∨ j = 1 := by omega
    rcases hc with rfl | rfl
    · exact ckX4_coloursLacking_0
    · exact ckX4_coloursLacking_1)
  unfold ar_all
  rw [hm, h]
  rfl
theorem ckX4_cellsWrong : ar_all 88 = true := by decide +kernel
theorem ckX4_firstBadLaying : ar_all 89 = true := by decide +kernel
theorem ckX5_init : ar_all 90 = true := by decide +kernel
theorem ckX5_faultFound : ar_all 91 = true := by decide +kernel
theorem ckX5_tell : ar_all 92 = true := by decide +kernel
theorem ckX5_takeLetters : ar_all 93 = true := by decide +kernel
theorem ckX5_fail : ar_all 94 = true := by decide +kernel
theorem ckX5_wordOf : ar_all 95 = true := by decide +kernel
theorem ckX5_readItem : ar_all 96 = true := by decide +kernel
theorem ckX5_readWord : ar_all 97 = true := by decide +kernel
theorem ckX5_lettersAlike : ar_all 98 = true := by decide +kernel
theorem ckX5_letterAt : ar_all 99 = true := by decide +kernel
theorem ckX5_readSign : ar_all 100 = true := by decide +kernel
theorem ckX5_isDigit : ar_all 101 = true := by decide +kernel
theorem ckX5_readNumber_0 : ((am_code 102).drop 0 |>.take 40).all (ar_ent 102) = true := by decide +kernel
theorem ckX5_readNumber_1 : ((am_code 102).drop 40 |>.take 40).all (ar_ent 102) = true := by decide +kernel
theorem ckX5_readNumber : ar_all 102 = true := by
  have hm : ar_meth 102 = true := by decide +kernel
  have h : (am_code 102).all (ar_ent 102) = true := ar_pieces 2 40 _ (by decide +kernel) (fun j hj => by
    have hc : j = 0 ∨ j = 1 := by omega
    rcases hc with rfl | rfl
    · exact ckX5_readNumber_0
    · exact ckX5_readNumber_1)
  unfold ar_all
  rw [hm, h]
  rfl
theorem ckX5_readStuff : ar_all 103 = true := by decide +kernel
theorem ckX5_readCell : ar_all 104 = true := by decide +kernel
theorem ckX5_readPlan : ar_all 105 = true := by decide +kernel
theorem ckX5_readLaying : ar_all 106 = true := by decide +kernel
theorem ckX5_readSide : ar_all 107 = true := by decide +kernel
theorem ckX5_readHours : ar_all 108 = true := by decide +kernel
theorem ckX6_init : ar_all 109 = true := by decide +kernel
theorem ckX6_lastMinute : ar_all 110 = true := by decide +kernel
theorem ckX6_minutesFor : ar_all 111 = true := by decide +kernel
theorem ckX6_begin_0 : ((am_code 112).drop 0 |>.take 40).all (ar_ent 112) = true := by decide +kernel
theorem ckX6_begin_1 : ((am_code 112).drop 40 |>.take 40).all (ar_ent 112) = true := by decide +kernel
theorem ckX6_begin : ar_all 112 = true := by
  have hm : ar_meth 112 = true := by decide +kernel
  have h : (am_code 112).all (ar_ent 112) = true := ar_pieces 2 40 _ (by decide +kernel) (fun j hj => by
    have hc : j = 0 ∨ j = 1 := by omega
    rcases hc with rfl | rfl
    · exact ckX6_begin_0
    · exact ckX6_begin_1)
  unfold ar_all
  rw [hm, h]
  rfl
theorem ckX6_finish : ar_all 113 = true := by decide +kernel
theorem ckX6_takeCells : ar_all 114 = true := by decide +kernel
theorem ckX6_fullestIdleColumn : ar_all 115 = true := by decide +kernel
theorem ckX6_takeNextOf_0 : ((am_code 116).drop 0 |>.take 40).all (ar_ent 116) = true := by decide +kernel
theorem ckX6_takeNextOf_1 : ((am_code 116).drop 40 |>.take 40).all (ar_ent 116) = true := by decide +kernel
theorem ckX6_takeNextOf : ar_all 116 = true := by
  have hm : ar_meth 116 = true := by decide +kernel
  have h : (am_code 116).all (ar_ent 116) = true := ar_pieces 2 40 _ (by decide +kernel) (fun j hj => by
    have hc : j = 0 ∨ j = 1 := by omega
    rcases hc with rfl | rfl
    · exact ckX6_takeNextOf_0
    · exact ckX6_takeNextOf_1)
  unfold ar_all
  rw [hm, h]
  rfl
theorem ckX7_init_0 : ((am_code 117).drop 0 |>.take 40).all (ar_ent 117) = true := by decide +kernel
theorem ckX7_init_1 : ((am_code 117).drop 40 |>.take 40).all (ar_ent 117) = true := by decide +kernel
theorem ckX7_init : ar_all 117 = true := by
  have hm : ar_meth 117 = true := by decide +kernel
  have h : (am_code 117).all (ar_ent 117) = true := ar_pieces 2 40 _ (by decide +kernel) (fun j hj => by
    have hc : j = 0 ∨ j = 1 := by omega
    rcases hc with rfl | rfl
    · exact ckX7_init_0
    · exact ckX7_init_1)
  unfold ar_all
  rw [hm, h]
  rfl
theorem ckX7_row : ar_all 118 = true := by decide +kernel
theorem ckX7_set : ar_all 119 = true := by decide +kernel
theorem ckX7_copy_0 : ((am_code 120).drop 0 |>.take 40).all (ar_ent 120) = true := by decide +kernel
theorem ckX7_copy_1 : ((am_code 120).drop 40 |>.take 40).all (ar_ent 120) = true := by decide +kernel
theorem ckX7_copy : ar_all 120 = true := by
  have hm : ar_meth 120 = true := by decide +kernel
  have h : (am_code 120).all (ar_ent 120) = true := ar_pieces 2 40 _ (by decide +kernel) (fun j hj => by
    have hc : j = 0 ∨ j = 1 := by omega
    rcases hc with rfl | rfl
    · exact ckX7_copy_0
    · exact ckX7_copy_1)
  unfold ar_all
  rw [hm, h]
  rfl
theorem ckX7_element : ar_all 121 = true := by decide +kernel
theorem ckX7_show : ar_all 122 = true := by decide +kernel
theorem ckX7_holds : ar_all 123 = true := by decide +kernel
theorem ckX7_says_0 : ((am_code 124).drop 0 |>.take 40).all (ar_ent 124) = true := by decide +kernel
theorem ckX7_says_1 : ((am_code 124).drop 40 |>.take 40).all (ar_ent 124) = true := by decide +kernel
theorem ckX7_says : ar_all 124 = true := by
  have hm : ar_meth 124 = true := by decide +kernel
  have h : (am_code 124).all (ar_ent 124) = true := ar_pieces 2 40 _ (by decide +kernel) (fun j hj => by
    have hc : j = 0 ∨ j = 1 := by omega
    rcases hc with rfl | rfl
    · exact ckX7_says_0
    · exact ckX7_says_1)
  unfold ar_all
  rw [hm, h]
  rfl
theorem ckX7_stuff : ar_all 125 = true := by decide +kernel
theorem ckX7_stuffOf : ar_all 126 = true := by decide +kernel
theorem ckX7_cell : ar_all 127 = true := by decide +kernel
theorem ckX7_cellOf_0 : ((am_code 128).drop 0 |>.take 40).all (ar_ent 128) = true := by decide +kernel
theorem ckX7_cellOf_1 : ((am_code 128).drop 40 |>.take 40).all (ar_ent 128) = true := by decide +kernel
theorem ckX7_cellOf : ar_all 128 = true := by
  have hm : ar_meth 128 = true := by decide +kernel
  have h : (am_code 128).all (ar_ent 128) = true := ar_pieces 2 40 _ (by decide +kernel) (fun j hj => by
    have hc : j = 0 ∨ j = 1 := by omega
    rcases hc with rfl | rfl
    · exact ckX7_cellOf_0
    · exact ckX7_cellOf_1)
  unfold ar_all
  rw [hm, h]
  rfl
theorem ckX7_plan : ar_all 129 = true := by decide +kernel
theorem ckX7_village_0 : ((am_code 130).drop 0 |>.take 40).all (ar_ent 130) = true := by decide +kernel
theorem ckX7_village_1 : ((am_code 130).drop 40 |>.take 40).all (ar_ent 130) = true := by decide +kernel
theorem ckX7_village : ar_all 130 = true := by
  have hm : ar_meth 130 = true := by decide +kernel
  have h : (am_code 130).all (ar_ent 130) = true := ar_pieces 2 40 _ (by decide +kernel) (fun j hj => by
    have hc : j = 0 ∨ j = 1 := by omega
    rcases hc with rfl | rfl
    · exact ckX7_village_0
    · exact ckX7_village_1)
  unfold ar_all
  rw [hm, h]
  rfl
theorem ckX7_fault : ar_all 131 = true := by decide +kernel
theorem ckX7_may : ar_all 132 = true := by decide +kernel
theorem ckX7_lay : ar_all 133 = true := by decide +kernel
theorem ckX7_strip : ar_all 134 = true := by decide +kernel
theorem ckX7_spray : ar_all 135 = true := by decide +kernel
theorem ckX7_side : ar_all 136 = true := by decide +kernel
theorem ckX7_hours : ar_all 137 = true := by decide +kernel
theorem ckX7_fresh : ar_all 138 = true := by decide +kernel
theorem ckX7_beauty : ar_all 139 = true := by decide +kernel
theorem ckX7_looks : ar_all 140 = true := by decide +kernel
theorem ckX7_worst : ar_all 141 = true := by decide +kernel
theorem ckX7_all : ar_all 142 = true := by decide +kernel
theorem ckX7_best : ar_all 143 = true := by decide +kernel
theorem ckX7_turn : ar_all 144 = true := by decide +kernel
theorem ckX7_next : ar_all 145 = true := by decide +kernel
theorem ckX7_done : ar_all 146 = true := by decide +kernel
theorem ckX7_women : ar_all 147 = true := by decide +kernel
theorem ckX7_dry : ar_all 148 = true := by decide +kernel
theorem ckX7_sprayings : ar_all 149 = true := by decide +kernel
theorem ckX7_was : ar_all 150 = true := by decide +kernel
theorem ckX7_age : ar_all 151 = true := by decide +kernel
theorem ckX7_lacking : ar_all 152 = true := by decide +kernel
theorem ckX7_wrong : ar_all 153 = true := by decide +kernel
theorem ckX7_judge : ar_all 154 = true := by decide +kernel
theorem ckX7_days : ar_all 155 = true := by decide +kernel
theorem ckX7_seed : ar_all 156 = true := by decide +kernel
theorem ckX7_act : ar_all 157 = true := by decide +kernel
theorem ckX7_trace : ar_all 158 = true := by decide +kernel
theorem ckX7_image : ar_all 159 = true := by decide +kernel
theorem ckX7_restore : ar_all 160 = true := by decide +kernel
theorem ckX7_status : ar_all 161 = true := by decide +kernel
theorem ckX7_shelfAt : ar_all 162 = true := by decide +kernel
theorem ckX7_isCell : ar_all 163 = true := by decide +kernel
theorem ckX7_isHour : ar_all 164 = true := by decide +kernel
theorem ckX7_areHours : ar_all 165 = true := by decide +kernel
theorem ckX7_refuse : ar_all 166 = true := by decide +kernel
theorem ckX7_refusalsOf : ar_all 167 = true := by decide +kernel
theorem ckX7_tellingTrouble : ar_all 168 = true := by decide +kernel
theorem ckX7_saidAs : ar_all 169 = true := by decide +kernel
theorem ckX8_init_0 : ((am_code 170).drop 0 |>.take 40).all (ar_ent 170) = true := by decide +kernel
theorem ckX8_init_1 : ((am_code 170).drop 40 |>.take 40).all (ar_ent 170) = true := by decide +kernel
theorem ckX8_init_2 : ((am_code 170).drop 80 |>.take 40).all (ar_ent 170) = true := by decide +kernel
theorem ckX8_init_3 : ((am_code 170).drop 120 |>.take 40).all (ar_ent 170) = true := by decide +kernel
theorem ckX8_init_4 : ((am_code 170).drop 160 |>.take 40).all (ar_ent 170) = true := by decide +kernel
theorem ckX8_init_5 : ((am_code 170).drop 200 |>.take 40).all (ar_ent 170) = true := by decide +kernel
theorem ckX8_init_6 : ((am_code 170).drop 240 |>.take 40).all (ar_ent 170) = true := by decide +kernel
theorem ckX8_init_7 : ((am_code 170).drop 280 |>.take 40).all (ar_ent 170) = true := by decide +kernel
theorem ckX8_init : ar_all 170 = true := by
  have hm : ar_meth 170 = true := by decide +kernel
  have h : (am_code 170).all (ar_ent 170) = true := ar_pieces 8 40 _ (by decide +kernel) (fun j hj => by
    have hc : j = 0 ∨ j = 1 ∨ j = 2 ∨ j = 3 ∨ j = 4 ∨ j = 5 ∨ j = 6 ∨ j = 7 := by omega
    rcases hc with rfl | rfl | rfl | rfl | rfl | rfl | rfl | rfl
    · exact ckX8_init_0
    · exact ckX8_init_1
    · exact ckX8_init_2
    · exact ckX8_init_3
    · exact ckX8_init_4
    · exact ckX8_init_5
    · exact ckX8_init_6
    · exact ckX8_init_7)
  unfold ar_all
  rw [hm, h]
  rfl
theorem ckX8_no : ar_all 171 = true := by decide +kernel
theorem ckX8_noTen : ar_all 172 = true := by decide +kernel
theorem ckX8_isShelf : ar_all 173 = true := by decide +kernel
theorem ckX8_isStuff : ar_all 174 = true := by decide +kernel
theorem ckX8_isCell : ar_all 175 = true := by decide +kernel
theorem ckX8_row_0 : ((am_code 176).drop 0 |>.take 40).all (ar_ent 176) = true := by decide +kernel
theorem ckX8_row_1 : ((am_code 176).drop 40 |>.take 40).all (ar_ent 176) = true := by decide +kernel
theorem ckX8_row : ar_all 176 = true := by
  have hm : ar_meth 176 = true := by decide +kernel
  have h : (am_code 176).all (ar_ent 176) = true := ar_pieces 2 40 _ (by decide +kernel) (fun j hj => by
    have hc : j = 0 ∨ j = 1 := by omega
    rcases hc with rfl | rfl
    · exact ckX8_row_0
    · exact ckX8_row_1)
  unfold ar_all
  rw [hm, h]
  rfl
theorem ckX8_set_0 : ((am_code 177).drop 0 |>.take 40).all (ar_ent 177) = true := by decide +kernel
theorem ckX8_set_1 : ((am_code 177).drop 40 |>.take 40).all (ar_ent 177) = true := by decide +kernel
theorem ckX8_set_2 : ((am_code 177).drop 80 |>.take 40).all (ar_ent 177) = true := by decide +kernel
theorem ckX8_set : ar_all 177 = true := by
  have hm : ar_meth 177 = true := by decide +kernel
  have h : (am_code 177).all (ar_ent 177) = true := ar_pieces 3 40 _ (by decide +kernel) (fun j hj => by
    have hc : j = 0 ∨ j = 1 ∨ j = 2 := by omega
    rcases hc with rfl | rfl | rfl
    · exact ckX8_set_0
    · exact ckX8_set_1
    · exact ckX8_set_2)
  unfold ar_all
  rw [hm, h]
  rfl
theorem ckX8_copy_0 : ((am_code 178).drop 0 |>.take 40).all (ar_ent 178) = true := by decide +kernel
theorem ckX8_copy_1 : ((am_code 178).drop 40 |>.take 40).all (ar_ent 178) = true := by decide +kernel
theorem ckX8_copy_2 : ((am_code 178).drop 80 |>.take 40).all (ar_ent 178) = true := by decide +kernel
theorem ckX8_copy_3 : ((am_code 178).drop 120 |>.take 40).all (ar_ent 178) = true := by decide +kernel
theorem ckX8_copy : ar_all 178 = true := by
  have hm : ar_meth 178 = true := by decide +kernel
  have h : (am_code 178).all (ar_ent 178) = true := ar_pieces 4 40 _ (by decide +kernel) (fun j hj => by
    have hc : j = 0 ∨ j = 1 ∨ j = 2 ∨ j = 3 := by omega
    rcases hc with rfl | rfl | rfl | rfl
    · exact ckX8_copy_0
    · exact ckX8_copy_1
    · exact ckX8_copy_2
    · exact ckX8_copy_3)
  unfold ar_all
  rw [hm, h]
  rfl
theorem ckX8_element : ar_all 179 = true := by decide +kernel
theorem ckX8_show : ar_all 180 = true := by decide +kernel
theorem ckX8_holds : ar_all 181 = true := by decide +kernel
theorem ckX8_count : ar_all 182 = true := by decide +kernel
theorem ckX8_says_0 : ((am_code 183).drop 0 |>.take 40).all (ar_ent 183) = true := by decide +kernel
theorem ckX8_says_1 : ((am_code 183).drop 40 |>.take 40).all (ar_ent 183) = true := by decide +kernel
theorem ckX8_says_2 : ((am_code 183).drop 80 |>.take 40).all (ar_ent 183) = true := by decide +kernel
theorem ckX8_says : ar_all 183 = true := by
  have hm : ar_meth 183 = true := by decide +kernel
  have h : (am_code 183).all (ar_ent 183) = true := ar_pieces 3 40 _ (by decide +kernel) (fun j hj => by
    have hc : j = 0 ∨ j = 1 ∨ j = 2 := by omega
    rcases hc with rfl | rfl | rfl
    · exact ckX8_says_0
    · exact ckX8_says_1
    · exact ckX8_says_2)
  unfold ar_all
  rw [hm, h]
  rfl
theorem ckX8_wanted : ar_all 184 = true := by decide +kernel
theorem ckX8_intAt : ar_all 185 = true := by decide +kernel
theorem ckX8_bars : ar_all 186 = true := by decide +kernel
theorem ckX8_adds : ar_all 187 = true := by decide +kernel
theorem ckX8_stuff : ar_all 188 = true := by decide +kernel
theorem ckX8_stuffOf : ar_all 189 = true := by decide +kernel
theorem ckX8_cell : ar_all 190 = true := by decide +kernel
theorem ckX8_cellOf_0 : ((am_code 191).drop 0 |>.take 40).all (ar_ent 191) = true := by decide +kernel
theorem ckX8_cellOf_1 : ((am_code 191).drop 40 |>.take 40).all (ar_ent 191) = true := by decide +kernel
theorem ckX8_cellOf : ar_all 191 = true := by
  have hm : ar_meth 191 = true := by decide +kernel
  have h : (am_code 191).all (ar_ent 191) = true := ar_pieces 2 40 _ (by decide +kernel) (fun j hj => by
    have hc : j = 0 ∨ j = 1 := by omega
    rcases hc with rfl | rfl
    · exact ckX8_cellOf_0
    · exact ckX8_cellOf_1)
  unfold ar_all
  rw [hm, h]
  rfl
theorem ckX8_plan : ar_all 192 = true := by decide +kernel
theorem ckX8_mayLay : ar_all 193 = true := by decide +kernel
theorem ckX8_may : ar_all 194 = true := by decide +kernel
theorem ckX8_laidMany : ar_all 195 = true := by decide +kernel
theorem ckX8_puts : ar_all 196 = true := by decide +kernel
theorem ckX8_lay : ar_all 197 = true := by decide +kernel
theorem ckX8_strip : ar_all 198 = true := by decide +kernel
theorem ckX8_spray : ar_all 199 = true := by decide +kernel
theorem ckX8_side : ar_all 200 = true := by decide +kernel
theorem ckX8_inSun : ar_all 201 = true := by decide +kernel
theorem ckX8_dries : ar_all 202 = true := by decide +kernel
theorem ckX8_goes_0 : ((am_code 203).drop 0 |>.take 40).all (ar_ent 203) = true := by decide +kernel
theorem ckX8_goes_1 : ((am_code 203).drop 40 |>.take 40).all (ar_ent 203) = true := by decide +kernel
theorem ckX8_goes : ar_all 203 = true := by
  have hm : ar_meth 203 = true := by decide +kernel
  have h : (am_code 203).all (ar_ent 203) = true := ar_pieces 2 40 _ (by decide +kernel) (fun j hj => by
    have hc : j = 0 ∨ j = 1 := by omega
    rcases hc with rfl | rfl
    · exact ckX8_goes_0
    · exact ckX8_goes_1)
  unfold ar_all
  rw [hm, h]
  rfl
theorem ckX8_isHour : ar_all 204 = true := by decide +kernel
theorem ckX8_hours : ar_all 205 = true := by decide +kernel
theorem ckX8_faulty : ar_all 206 = true := by decide +kernel
theorem ckX8_isWordAt_0 : ((am_code 207).drop 0 |>.take 40).all (ar_ent 207) = true := by decide +kernel
theorem ckX8_isWordAt_1 : ((am_code 207).drop 40 |>.take 40).all (ar_ent 207) = true := by decide +kernel
theorem ckX8_isWordAt : ar_all 207 = true := by
  have hm : ar_meth 207 = true := by decide +kernel
  have h : (am_code 207).all (ar_ent 207) = true := ar_pieces 2 40 _ (by decide +kernel) (fun j hj => by
    have hc : j = 0 ∨ j = 1 := by omega
    rcases hc with rfl | rfl
    · exact ckX8_isWordAt_0
    · exact ckX8_isWordAt_1)
  unfold ar_all
  rw [hm, h]
  rfl
theorem ckX8_word_0 : ((am_code 208).drop 0 |>.take 40).all (ar_ent 208) = true := by decide +kernel
theorem ckX8_word_1 : ((am_code 208).drop 40 |>.take 40).all (ar_ent 208) = true := by decide +kernel
theorem ckX8_word : ar_all 208 = true := by
  have hm : ar_meth 208 = true := by decide +kernel
  have h : (am_code 208).all (ar_ent 208) = true := ar_pieces 2 40 _ (by decide +kernel) (fun j hj => by
    have hc : j = 0 ∨ j = 1 := by omega
    rcases hc with rfl | rfl
    · exact ckX8_word_0
    · exact ckX8_word_1)
  unfold ar_all
  rw [hm, h]
  rfl
theorem ckX8_isDigit : ar_all 209 = true := by decide +kernel
theorem ckX8_number_0 : ((am_code 210).drop 0 |>.take 40).all (ar_ent 210) = true := by decide +kernel
theorem ckX8_number_1 : ((am_code 210).drop 40 |>.take 40).all (ar_ent 210) = true := by decide +kernel
theorem ckX8_number : ar_all 210 = true := by
  have hm : ar_meth 210 = true := by decide +kernel
  have h : (am_code 210).all (ar_ent 210) = true := ar_pieces 2 40 _ (by decide +kernel) (fun j hj => by
    have hc : j = 0 ∨ j = 1 := by omega
    rcases hc with rfl | rfl
    · exact ckX8_number_0
    · exact ckX8_number_1)
  unfold ar_all
  rw [hm, h]
  rfl
theorem ckX8_isSo_0 : ((am_code 211).drop 0 |>.take 40).all (ar_ent 211) = true := by decide +kernel
theorem ckX8_isSo_1 : ((am_code 211).drop 40 |>.take 40).all (ar_ent 211) = true := by decide +kernel
theorem ckX8_isSo_2 : ((am_code 211).drop 80 |>.take 40).all (ar_ent 211) = true := by decide +kernel
theorem ckX8_isSo : ar_all 211 = true := by
  have hm : ar_meth 211 = true := by decide +kernel
  have h : (am_code 211).all (ar_ent 211) = true := ar_pieces 3 40 _ (by decide +kernel) (fun j hj => by
    have hc : j = 0 ∨ j = 1 ∨ j = 2 := by omega
    rcases hc with rfl | rfl | rfl
    · exact ckX8_isSo_0
    · exact ckX8_isSo_1
    · exact ckX8_isSo_2)
  unfold ar_all
  rw [hm, h]
  rfl
theorem ckX8_item_0 : ((am_code 212).drop 0 |>.take 40).all (ar_ent 212) = true := by decide +kernel
theorem ckX8_item_1 : ((am_code 212).drop 40 |>.take 40).all (ar_ent 212) = true := by decide +kernel
theorem ckX8_item_2 : ((am_code 212).drop 80 |>.take 40).all (ar_ent 212) = true := by decide +kernel
theorem ckX8_item_3 : ((am_code 212).drop 120 |>.take 40).all (ar_ent 212) = true := by decide +kernel
theorem ckX8_item_4 : ((am_code 212).drop 160 |>.take 40).all (ar_ent 212) = true := by decide +kernel
theorem ckX8_item : ar_all 212 = true := by
  have hm : ar_meth 212 = true := by decide +kernel
  have h : (am_code 212).all (ar_ent 212) = true := ar_pieces 5 40 _ (by decide +kernel) (fun j hj => by
    have hc : j = 0 ∨ j = 1 ∨ j = 2 ∨ j = 3 ∨ j = 4 := by omega
    rcases hc with rfl | rfl | rfl | rfl | rfl
    · exact ckX8_item_0
    · exact ckX8_item_1
    · exact ckX8_item_2
    · exact ckX8_item_3
    · exact ckX8_item_4)
  unfold ar_all
  rw [hm, h]
  rfl
theorem ckX8_carries : ar_all 213 = true := by decide +kernel
theorem ckX8_whole_0 : ((am_code 214).drop 0 |>.take 40).all (ar_ent 214) = true := by decide +kernel
theorem ckX8_whole_1 : ((am_code 214).drop 40 |>.take 40).all (ar_ent 214) = true := by decide +kernel
theorem ckX8_whole_2 : ((am_code 214).drop 80 |>.take 40).all (ar_ent 214) = true := by decide +kernel
theorem ckX8_whole_3 : ((am_code 214).drop 120 |>.take 40).all (ar_ent 214) = true := by decide +kernel
theorem ckX8_whole_4 : ((am_code 214).drop 160 |>.take 40).all (ar_ent 214) = true := by decide +kernel
theorem ckX8_whole : ar_all 214 = true := by
  have hm : ar_meth 214 = true := by decide +kernel
  have h : (am_code 214).all (ar_ent 214) = true := ar_pieces 5 40 _ (by decide +kernel) (fun j hj => by
    have hc : j = 0 ∨ j = 1 ∨ j = 2 ∨ j = 3 ∨ j = 4 := by omega
    rcases hc with rfl | rfl | rfl | rfl | rfl
    · exact ckX8_whole_0
    · exact ckX8_whole_1
    · exact ckX8_whole_2
    · exact ckX8_whole_3
    · exact ckX8_whole_4)
  unfold ar_all
  rw [hm, h]
  rfl
theorem ckX8_village_0 : ((am_code 215).drop 0 |>.take 40).all (ar_ent 215) = true := by decide +kernel
theorem ckX8_village_1 : ((am_code 215).drop 40 |>.take 40).all (ar_ent 215) = true := by decide +kernel
theorem ckX8_village_2 : ((am_code 215).drop 80 |>.take 40).all (ar_ent 215) = true := by decide +kernel
theorem ckX8_village : ar_all 215 = true := by
  have hm : ar_meth 215 = true := by decide +kernel
  have h : (am_code 215).all (ar_ent 215) = true := ar_pieces 3 40 _ (by decide +kernel) (fun j hj => by
    have hc : j = 0 ∨ j = 1 ∨ j = 2 := by omega
    rcases hc with rfl | rfl | rfl
    · exact ckX8_village_0
    · exact ckX8_village_1
    · exact ckX8_village_2)
  unfold ar_all
  rw [hm, h]
  rfl
theorem ckX8_fault : ar_all 216 = true := by decide +kernel
theorem ckX8_brownOf : ar_all 217 = true := by decide +kernel
theorem ckX8_freshOf_0 : ((am_code 218).drop 0 |>.take 40).all (ar_ent 218) = true := by decide +kernel
theorem ckX8_freshOf_1 : ((am_code 218).drop 40 |>.take 40).all (ar_ent 218) = true := by decide +kernel
theorem ckX8_freshOf : ar_all 218 = true := by
  have hm : ar_meth 218 = true := by decide +kernel
  have h : (am_code 218).all (ar_ent 218) = true := ar_pieces 2 40 _ (by decide +kernel) (fun j hj => by
    have hc : j = 0 ∨ j = 1 := by omega
    rcases hc with rfl | rfl
    · exact ckX8_freshOf_0
    · exact ckX8_freshOf_1)
  unfold ar_all
  rw [hm, h]
  rfl
theorem ckX8_freshAt_0 : ((am_code 219).drop 0 |>.take 40).all (ar_ent 219) = true := by decide +kernel
theorem ckX8_freshAt_1 : ((am_code 219).drop 40 |>.take 40).all (ar_ent 219) = true := by decide +kernel
theorem ckX8_freshAt : ar_all 219 = true := by
  have hm : ar_meth 219 = true := by decide +kernel
  have h : (am_code 219).all (ar_ent 219) = true := ar_pieces 2 40 _ (by decide +kernel) (fun j hj => by
    have hc : j = 0 ∨ j = 1 := by omega
    rcases hc with rfl | rfl
    · exact ckX8_freshAt_0
    · exact ckX8_freshAt_1)
  unfold ar_all
  rw [hm, h]
  rfl
theorem ckX8_beautyAt : ar_all 220 = true := by decide +kernel
theorem ckX8_looksAt : ar_all 221 = true := by decide +kernel
theorem ckX8_fresh : ar_all 222 = true := by decide +kernel
theorem ckX8_beauty : ar_all 223 = true := by decide +kernel
theorem ckX8_looks : ar_all 224 = true := by decide +kernel
theorem ckX8_areHours : ar_all 225 = true := by decide +kernel
theorem ckX8_worst : ar_all 226 = true := by decide +kernel
theorem ckX8_allOf : ar_all 227 = true := by decide +kernel
theorem ckX8_all : ar_all 228 = true := by decide +kernel
theorem ckX8_best_0 : ((am_code 229).drop 0 |>.take 40).all (ar_ent 229) = true := by decide +kernel
theorem ckX8_best_1 : ((am_code 229).drop 40 |>.take 40).all (ar_ent 229) = true := by decide +kernel
theorem ckX8_best_2 : ((am_code 229).drop 80 |>.take 40).all (ar_ent 229) = true := by decide +kernel
theorem ckX8_best : ar_all 229 = true := by
  have hm : ar_meth 229 = true := by decide +kernel
  have h : (am_code 229).all (ar_ent 229) = true := ar_pieces 3 40 _ (by decide +kernel) (fun j hj => by
    have hc : j = 0 ∨ j = 1 ∨ j = 2 := by omega
    rcases hc with rfl | rfl | rfl
    · exact ckX8_best_0
    · exact ckX8_best_1
    · exact ckX8_best_2)
  unfold ar_all
  rw [hm, h]
  rfl
theorem ckX8_turn_0 : ((am_code 230).drop 0 |>.take 40).all (ar_ent 230) = true := by decide +kernel
theorem ckX8_turn_1 : ((am_code 230).drop 40 |>.take 40).all (ar_ent 230) = true := by decide +kernel
theorem ckX8_turn : ar_all 230 = true := by
  have hm : ar_meth 230 = true := by decide +kernel
  have h : (am_code 230).all (ar_ent 230) = true := ar_pieces 2 40 _ (by decide +kernel) (fun j hj => by
    have hc : j = 0 ∨ j = 1 := by omega
    rcases hc with rfl | rfl
    · exact ckX8_turn_0
    · exact ckX8_turn_1)
  unfold ar_all
  rw [hm, h]
  rfl
theorem ckX8_isOpen : ar_all 231 = true := by decide +kernel
theorem ckX8_next : ar_all 232 = true := by decide +kernel
theorem ckX8_takesAt : ar_all 233 = true := by decide +kernel
theorem ckX8_seeks : ar_all 234 = true := by decide +kernel
theorem ckX8_leftOf : ar_all 235 = true := by decide +kernel
theorem ckX8_doneBy_0 : ((am_code 236).drop 0 |>.take 40).all (ar_ent 236) = true := by decide +kernel
theorem ckX8_doneBy_1 : ((am_code 236).drop 40 |>.take 40).all (ar_ent 236) = true := by decide +kernel
theorem ckX8_doneBy_2 : ((am_code 236).drop 80 |>.take 40).all (ar_ent 236) = true := by decide +kernel
theorem ckX8_doneBy_3 : ((am_code 236).drop 120 |>.take 40).all (ar_ent 236) = true := by decide +kernel
theorem ckX8_doneBy : ar_all 236 = true := by
  have hm : ar_meth 236 = true := by decide +kernel
  have h : (am_code 236).all (ar_ent 236) = true := ar_pieces 4 40 _ (by decide +kernel) (fun j hj => by
    have hc : j = 0 ∨ j = 1 ∨ j = 2 ∨ j = 3 := by omega
    rcases hc with rfl | rfl | rfl | rfl
    · exact ckX8_doneBy_0
    · exact ckX8_doneBy_1
    · exact ckX8_doneBy_2
    · exact ckX8_doneBy_3)
  unfold ar_all
  rw [hm, h]
  rfl
theorem ckX8_done : ar_all 237 = true := by decide +kernel
theorem ckX8_women : ar_all 238 = true := by decide +kernel
theorem ckX8_dry : ar_all 239 = true := by decide +kernel
theorem ckX8_sprayings_0 : ((am_code 240).drop 0 |>.take 40).all (ar_ent 240) = true := by decide +kernel
theorem ckX8_sprayings_1 : ((am_code 240).drop 40 |>.take 40).all (ar_ent 240) = true := by decide +kernel
theorem ckX8_sprayings : ar_all 240 = true := by
  have hm : ar_meth 240 = true := by decide +kernel
  have h : (am_code 240).all (ar_ent 240) = true := ar_pieces 2 40 _ (by decide +kernel) (fun j hj => by
    have hc : j = 0 ∨ j = 1 := by omega
    rcases hc with rfl | rfl
    · exact ckX8_sprayings_0
    · exact ckX8_sprayings_1)
  unfold ar_all
  rw [hm, h]
  rfl
theorem ckX8_was_0 : ((am_code 241).drop 0 |>.take 40).all (ar_ent 241) = true := by decide +kernel
theorem ckX8_was_1 : ((am_code 241).drop 40 |>.take 40).all (ar_ent 241) = true := by decide +kernel
theorem ckX8_was : ar_all 241 = true := by
  have hm : ar_meth 241 = true := by decide +kernel
  have h : (am_code 241).all (ar_ent 241) = true := ar_pieces 2 40 _ (by decide +kernel) (fun j hj => by
    have hc : j = 0 ∨ j = 1 := by omega
    rcases hc with rfl | rfl
    · exact ckX8_was_0
    · exact ckX8_was_1)
  unfold ar_all
  rw [hm, h]
  rfl
theorem ckX8_age_0 : ((am_code 242).drop 0 |>.take 40).all (ar_ent 242) = true := by decide +kernel
theorem ckX8_age_1 : ((am_code 242).drop 40 |>.take 40).all (ar_ent 242) = true := by decide +kernel
theorem ckX8_age : ar_all 242 = true := by
  have hm : ar_meth 242 = true := by decide +kernel
  have h : (am_code 242).all (ar_ent 242) = true := ar_pieces 2 40 _ (by decide +kernel) (fun j hj => by
    have hc : j = 0 ∨ j = 1 := by omega
    rcases hc with rfl | rfl
    · exact ckX8_age_0
    · exact ckX8_age_1)
  unfold ar_all
  rw [hm, h]
  rfl
theorem ckX8_lacking_0 : ((am_code 243).drop 0 |>.take 40).all (ar_ent 243) = true := by decide +kernel
theorem ckX8_lacking_1 : ((am_code 243).drop 40 |>.take 40).all (ar_ent 243) = true := by decide +kernel
theorem ckX8_lacking : ar_all 243 = true := by
  have hm : ar_meth 243 = true := by decide +kernel
  have h : (am_code 243).all (ar_ent 243) = true := ar_pieces 2 40 _ (by decide +kernel) (fun j hj => by
    have hc : j = 0 ∨ j = 1 := by omega
    rcases hc with rfl | rfl
    · exact ckX8_lacking_0
    · exact ckX8_lacking_1)
  unfold ar_all
  rw [hm, h]
  rfl
theorem ckX8_wrong : ar_all 244 = true := by decide +kernel
theorem ckX8_judge_0 : ((am_code 245).drop 0 |>.take 40).all (ar_ent 245) = true := by decide +kernel
theorem ckX8_judge_1 : ((am_code 245).drop 40 |>.take 40).all (ar_ent 245) = true := by decide +kernel
theorem ckX8_judge_2 : ((am_code 245).drop 80 |>.take 40).all (ar_ent 245) = true := by decide +kernel
theorem ckX8_judge : ar_all 245 = true := by
  have hm : ar_meth 245 = true := by decide +kernel
  have h : (am_code 245).all (ar_ent 245) = true := ar_pieces 3 40 _ (by decide +kernel) (fun j hj => by
    have hc : j = 0 ∨ j = 1 ∨ j = 2 := by omega
    rcases hc with rfl | rfl | rfl
    · exact ckX8_judge_0
    · exact ckX8_judge_1
    · exact ckX8_judge_2)
  unfold ar_all
  rw [hm, h]
  rfl
theorem ckX8_draw : ar_all 246 = true := by decide +kernel
theorem ckX8_days_0 : ((am_code 247).drop 0 |>.take 40).all (ar_ent 247) = true := by decide +kernel
theorem ckX8_days_1 : ((am_code 247).drop 40 |>.take 40).all (ar_ent 247) = true := by decide +kernel
theorem ckX8_days : ar_all 247 = true := by
  have hm : ar_meth 247 = true := by decide +kernel
  have h : (am_code 247).all (ar_ent 247) = true := ar_pieces 2 40 _ (by decide +kernel) (fun j hj => by
    have hc : j = 0 ∨ j = 1 := by omega
    rcases hc with rfl | rfl
    · exact ckX8_days_0
    · exact ckX8_days_1)
  unfold ar_all
  rw [hm, h]
  rfl
theorem ckX8_seed : ar_all 248 = true := by decide +kernel
theorem ckX8_body : ar_all 249 = true := by decide +kernel
theorem ckX8_laying_0 : ((am_code 250).drop 0 |>.take 40).all (ar_ent 250) = true := by decide +kernel
theorem ckX8_laying_1 : ((am_code 250).drop 40 |>.take 40).all (ar_ent 250) = true := by decide +kernel
theorem ckX8_laying : ar_all 250 = true := by
  have hm : ar_meth 250 = true := by decide +kernel
  have h : (am_code 250).all (ar_ent 250) = true := ar_pieces 2 40 _ (by decide +kernel) (fun j hj => by
    have hc : j = 0 ∨ j = 1 := by omega
    rcases hc with rfl | rfl
    · exact ckX8_laying_0
    · exact ckX8_laying_1)
  unfold ar_all
  rw [hm, h]
  rfl
theorem ckX8_fading_0 : ((am_code 251).drop 0 |>.take 40).all (ar_ent 251) = true := by decide +kernel
theorem ckX8_fading_1 : ((am_code 251).drop 40 |>.take 40).all (ar_ent 251) = true := by decide +kernel
theorem ckX8_fading : ar_all 251 = true := by
  have hm : ar_meth 251 = true := by decide +kernel
  have h : (am_code 251).all (ar_ent 251) = true := ar_pieces 2 40 _ (by decide +kernel) (fun j hj => by
    have hc : j = 0 ∨ j = 1 := by omega
    rcases hc with rfl | rfl
    · exact ckX8_fading_0
    · exact ckX8_fading_1)
  unfold ar_all
  rw [hm, h]
  rfl
theorem ckX8_showing_0 : ((am_code 252).drop 0 |>.take 40).all (ar_ent 252) = true := by decide +kernel
theorem ckX8_showing_1 : ((am_code 252).drop 40 |>.take 40).all (ar_ent 252) = true := by decide +kernel
theorem ckX8_showing : ar_all 252 = true := by
  have hm : ar_meth 252 = true := by decide +kernel
  have h : (am_code 252).all (ar_ent 252) = true := ar_pieces 2 40 _ (by decide +kernel) (fun j hj => by
    have hc : j = 0 ∨ j = 1 := by omega
    rcases hc with rfl | rfl
    · exact ckX8_showing_0
    · exact ckX8_showing_1)
  unfold ar_all
  rw [hm, h]
  rfl
theorem ckX8_act : ar_all 253 = true := by decide +kernel
theorem ckX8_trace : ar_all 254 = true := by decide +kernel
theorem ckX8_image : ar_all 255 = true := by decide +kernel
theorem ckX8_restore : ar_all 256 = true := by decide +kernel
theorem ckX8_status_0 : ((am_code 257).drop 0 |>.take 40).all (ar_ent 257) = true := by decide +kernel
theorem ckX8_status_1 : ((am_code 257).drop 40 |>.take 40).all (ar_ent 257) = true := by decide +kernel
theorem ckX8_status : ar_all 257 = true := by
  have hm : ar_meth 257 = true := by decide +kernel
  have h : (am_code 257).all (ar_ent 257) = true := ar_pieces 2 40 _ (by decide +kernel) (fun j hj => by
    have hc : j = 0 ∨ j = 1 := by omega
    rcases hc with rfl | rfl
    · exact ckX8_status_0
    · exact ckX8_status_1)
  unfold ar_all
  rw [hm, h]
  rfl
theorem ckJ0_length_8abf5 : ar_all 258 = true := by decide +kernel
theorem ckJ0_charAt_5068e : ar_all 259 = true := by decide +kernel
theorem ckJ0_coder_7d493 : ar_all 260 = true := by decide +kernel
theorem ckJ0_isLatin1_aae02 : ar_all 261 = true := by decide +kernel
theorem ckJ0_checkIndex_df160 : ar_all 262 = true := by decide +kernel
theorem ckJ1_charAt_3b067 : ar_all 263 = true := by decide +kernel
theorem ckJ7_fill_d0a16 : ar_all 264 = true := by decide +kernel
theorem ckJ7_fill_53178 : ar_all 265 = true := by decide +kernel
theorem ckJ3_checkIndex_8e157 : ar_all 266 = true := by decide +kernel

def ar_nums0 : List Nat := [0, 1, 2, 3, 4, 5, 6, 7, 8, 9, 10, 11, 12, 13, 14, 15, 16, 17, 18, 19]
theorem ar_numsOk0 : ∀ n ∈ ar_nums0, ar_all n = true := List.forall_mem_cons.mpr ⟨ckX0_init, List.forall_mem_cons.mpr ⟨ckX0_forget, List.forall_mem_cons.mpr ⟨ckX0_bodiesRun, List.forall_mem_cons.mpr ⟨ckX0_bodyAt, List.forall_mem_cons.mpr ⟨ckX0_perform, List.forall_mem_cons.mpr ⟨ckX0_noteBegun, List.forall_mem_cons.mpr ⟨ckX0_ownBody, List.forall_mem_cons.mpr ⟨ckX0_kindWithBody, List.forall_mem_cons.mpr ⟨ckX0_runBody, List.forall_mem_cons.mpr ⟨ckX1_init, List.forall_mem_cons.mpr ⟨ckX1_becomeLike, List.forall_mem_cons.mpr ⟨ckX1_isStuff, List.forall_mem_cons.mpr ⟨ckX1_stuffCount, List.forall_mem_cons.mpr ⟨ckX1_hasRoom, List.forall_mem_cons.mpr ⟨ckX1_addStuff, List.forall_mem_cons.mpr ⟨ckX1_kindOf, List.forall_mem_cons.mpr ⟨ckX1_colourOf, List.forall_mem_cons.mpr ⟨ckX1_aOf, List.forall_mem_cons.mpr ⟨ckX1_cellsLaidWith, List.forall_mem_cons.mpr ⟨ckX1_cellsPlannedWith, fun _ h => absurd h List.not_mem_nil⟩⟩⟩⟩⟩⟩⟩⟩⟩⟩⟩⟩⟩⟩⟩⟩⟩⟩⟩⟩
def ar_nums1 : List Nat := [20, 21, 22, 23, 24, 25, 26, 27, 28, 29, 30, 31, 32, 33, 34, 35, 36, 37, 38, 39]
theorem ar_numsOk1 : ∀ n ∈ ar_nums1, ar_all n = true := List.forall_mem_cons.mpr ⟨ckX1_countOf, List.forall_mem_cons.mpr ⟨ckX1_drawnAt, List.forall_mem_cons.mpr ⟨ckX1_laidAt, List.forall_mem_cons.mpr ⟨ckX1_plannedAt, List.forall_mem_cons.mpr ⟨ckX1_sunAt, List.forall_mem_cons.mpr ⟨ckX1_shadeAt, List.forall_mem_cons.mpr ⟨ckX1_spraysAt, List.forall_mem_cons.mpr ⟨ckX1_laidCount, List.forall_mem_cons.mpr ⟨ckX1_isPlannedBare, List.forall_mem_cons.mpr ⟨ckX1_draw, List.forall_mem_cons.mpr ⟨ckX1_planFor, List.forall_mem_cons.mpr ⟨ckX1_mayBeLaid, List.forall_mem_cons.mpr ⟨ckX1_layOn, List.forall_mem_cons.mpr ⟨ckX1_makeBare, List.forall_mem_cons.mpr ⟨ckX1_takeOver, List.forall_mem_cons.mpr ⟨ckX1_wetness, List.forall_mem_cons.mpr ⟨ckX1_sunnySide, List.forall_mem_cons.mpr ⟨ckX1_hourNow, List.forall_mem_cons.mpr ⟨ckX1_crackCount, List.forall_mem_cons.mpr ⟨ckX1_turnTo, fun _ h => absurd h List.not_mem_nil⟩⟩⟩⟩⟩⟩⟩⟩⟩⟩⟩⟩⟩⟩⟩⟩⟩⟩⟩⟩
def ar_nums2 : List Nat := [40, 41, 42, 43, 44, 45, 46, 47, 48, 49, 50, 51, 52, 53, 54, 55, 56, 57, 58, 59]
theorem ar_numsOk2 : ∀ n ∈ ar_nums2, ar_all n = true := List.forall_mem_cons.mpr ⟨ckX1_driedByAnHour, List.forall_mem_cons.mpr ⟨ckX1_wetBySpray, List.forall_mem_cons.mpr ⟨ckX1_isInSun, List.forall_mem_cons.mpr ⟨ckX1_sprayOnce, List.forall_mem_cons.mpr ⟨ckX1_passHours, List.forall_mem_cons.mpr ⟨ckX1_dryForAnHour, List.forall_mem_cons.mpr ⟨ckX1_seedNow, List.forall_mem_cons.mpr ⟨ckX1_sow, List.forall_mem_cons.mpr ⟨ckX1_drawBelow, List.forall_mem_cons.mpr ⟨ckX1_passDays, List.forall_mem_cons.mpr ⟨ckX2_above, List.forall_mem_cons.mpr ⟨ckX2_isUnder, List.forall_mem_cons.mpr ⟨ckX2_brown, List.forall_mem_cons.mpr ⟨ckX2_freshness, List.forall_mem_cons.mpr ⟨ckX3_init, List.forall_mem_cons.mpr ⟨ckX3_holdsRow, List.forall_mem_cons.mpr ⟨ckX3_holdsStuff, List.forall_mem_cons.mpr ⟨ckX3_stuffHeld, List.forall_mem_cons.mpr ⟨ckX3_rowSize, List.forall_mem_cons.mpr ⟨ckX3_told, fun _ h => absurd h List.not_mem_nil⟩⟩⟩⟩⟩⟩⟩⟩⟩⟩⟩⟩⟩⟩⟩⟩⟩⟩⟩⟩
def ar_nums3 : List Nat := [60, 61, 62, 63, 64, 65, 66, 67, 68, 69, 70, 71, 72, 73, 74, 75, 76, 77, 78, 79]
theorem ar_numsOk3 : ∀ n ∈ ar_nums3, ar_all n = true := List.forall_mem_cons.mpr ⟨ckX3_rowTrouble, List.forall_mem_cons.mpr ⟨ckX3_isOfOtherSort, List.forall_mem_cons.mpr ⟨ckX3_takeNothing, List.forall_mem_cons.mpr ⟨ckX3_takeStuff, List.forall_mem_cons.mpr ⟨ckX3_takeRow, List.forall_mem_cons.mpr ⟨ckX3_hasElement, List.forall_mem_cons.mpr ⟨ckX3_hasElements, List.forall_mem_cons.mpr ⟨ckX3_put, List.forall_mem_cons.mpr ⟨ckX3_cut, List.forall_mem_cons.mpr ⟨ckX3_elementAt, List.forall_mem_cons.mpr ⟨ckX3_toldAt, List.forall_mem_cons.mpr ⟨ckX3_copyTo, List.forall_mem_cons.mpr ⟨ckX4_freshBehind, List.forall_mem_cons.mpr ⟨ckX4_hasItsColour, List.forall_mem_cons.mpr ⟨ckX4_beautyBehind, List.forall_mem_cons.mpr ⟨ckX4_looksBehind, List.forall_mem_cons.mpr ⟨ckX4_worstHour, List.forall_mem_cons.mpr ⟨ckX4_looksTogether, List.forall_mem_cons.mpr ⟨ckX4_bestSide, List.forall_mem_cons.mpr ⟨ckX4_bestStuff, fun _ h => absurd h List.not_mem_nil⟩⟩⟩⟩⟩⟩⟩⟩⟩⟩⟩⟩⟩⟩⟩⟩⟩⟩⟩⟩
def ar_nums4 : List Nat := [80, 81, 82, 83, 84, 85, 86, 87, 88, 89, 90, 91, 92, 93, 94, 95, 96, 97, 98, 99]
theorem ar_numsOk4 : ∀ n ∈ ar_nums4, ar_all n = true := List.forall_mem_cons.mpr ⟨ckX4_worthLaidNow, List.forall_mem_cons.mpr ⟨ckX4_nextCell, List.forall_mem_cons.mpr ⟨ckX4_firstDryHour, List.forall_mem_cons.mpr ⟨ckX4_spraysNeeded, List.forall_mem_cons.mpr ⟨ckX4_stuffsAsFresh, List.forall_mem_cons.mpr ⟨ckX4_hourAsTold, List.forall_mem_cons.mpr ⟨ckX4_isAsTold, List.forall_mem_cons.mpr ⟨ckX4_coloursLacking, List.forall_mem_cons.mpr ⟨ckX4_cellsWrong, List.forall_mem_cons.mpr ⟨ckX4_firstBadLaying, List.forall_mem_cons.mpr ⟨ckX5_init, List.forall_mem_cons.mpr ⟨ckX5_faultFound, List.forall_mem_cons.mpr ⟨ckX5_tell, List.forall_mem_cons.mpr ⟨ckX5_takeLetters, List.forall_mem_cons.mpr ⟨ckX5_fail, List.forall_mem_cons.mpr ⟨ckX5_wordOf, List.forall_mem_cons.mpr ⟨ckX5_readItem, List.forall_mem_cons.mpr ⟨ckX5_readWord, List.forall_mem_cons.mpr ⟨ckX5_lettersAlike, List.forall_mem_cons.mpr ⟨ckX5_letterAt, fun _ h => absurd h List.not_mem_nil⟩⟩⟩⟩⟩⟩⟩⟩⟩⟩⟩⟩⟩⟩⟩⟩⟩⟩⟩⟩
def ar_nums5 : List Nat := [100, 101, 102, 103, 104, 105, 106, 107, 108, 109, 110, 111, 112, 113, 114, 115, 116, 117, 118, 119]
theorem ar_numsOk5 : ∀ n ∈ ar_nums5, ar_all n = true := List.forall_mem_cons.mpr ⟨ckX5_readSign, List.forall_mem_cons.mpr ⟨ckX5_isDigit, List.forall_mem_cons.mpr ⟨ckX5_readNumber, List.forall_mem_cons.mpr ⟨ckX5_readStuff, List.forall_mem_cons.mpr ⟨ckX5_readCell, List.forall_mem_cons.mpr ⟨ckX5_readPlan, List.forall_mem_cons.mpr ⟨ckX5_readLaying, List.forall_mem_cons.mpr ⟨ckX5_readSide, List.forall_mem_cons.mpr ⟨ckX5_readHours, List.forall_mem_cons.mpr ⟨ckX6_init, List.forall_mem_cons.mpr ⟨ckX6_lastMinute, List.forall_mem_cons.mpr ⟨ckX6_minutesFor, List.forall_mem_cons.mpr ⟨ckX6_begin, List.forall_mem_cons.mpr ⟨ckX6_finish, List.forall_mem_cons.mpr ⟨ckX6_takeCells, List.forall_mem_cons.mpr ⟨ckX6_fullestIdleColumn, List.forall_mem_cons.mpr ⟨ckX6_takeNextOf, List.forall_mem_cons.mpr ⟨ckX7_init, List.forall_mem_cons.mpr ⟨ckX7_row, List.forall_mem_cons.mpr ⟨ckX7_set, fun _ h => absurd h List.not_mem_nil⟩⟩⟩⟩⟩⟩⟩⟩⟩⟩⟩⟩⟩⟩⟩⟩⟩⟩⟩⟩
def ar_nums6 : List Nat := [120, 121, 122, 123, 124, 125, 126, 127, 128, 129, 130, 131, 132, 133, 134, 135, 136, 137, 138, 139]
theorem ar_numsOk6 : ∀ n ∈ ar_nums6, ar_all n = true := List.forall_mem_cons.mpr ⟨ckX7_copy, List.forall_mem_cons.mpr ⟨ckX7_element, List.forall_mem_cons.mpr ⟨ckX7_show, List.forall_mem_cons.mpr ⟨ckX7_holds, List.forall_mem_cons.mpr ⟨ckX7_says, List.forall_mem_cons.mpr ⟨ckX7_stuff, List.forall_mem_cons.mpr ⟨ckX7_stuffOf, List.forall_mem_cons.mpr ⟨ckX7_cell, List.forall_mem_cons.mpr ⟨ckX7_cellOf, List.forall_mem_cons.mpr ⟨ckX7_plan, List.forall_mem_cons.mpr ⟨ckX7_village, List.forall_mem_cons.mpr ⟨ckX7_fault, List.forall_mem_cons.mpr ⟨ckX7_may, List.forall_mem_cons.mpr ⟨ckX7_lay, List.forall_mem_cons.mpr ⟨ckX7_strip, List.forall_mem_cons.mpr ⟨ckX7_spray, List.forall_mem_cons.mpr ⟨ckX7_side, List.forall_mem_cons.mpr ⟨ckX7_hours, List.forall_mem_cons.mpr ⟨ckX7_fresh, List.forall_mem_cons.mpr ⟨ckX7_beauty, fun _ h => absurd h List.not_mem_nil⟩⟩⟩⟩⟩⟩⟩⟩⟩⟩⟩⟩⟩⟩⟩⟩⟩⟩⟩⟩
def ar_nums7 : List Nat := [140, 141, 142, 143, 144, 145, 146, 147, 148, 149, 150, 151, 152, 153, 154, 155, 156, 157, 158, 159]
theorem ar_numsOk7 : ∀ n ∈ ar_nums7, ar_all n = true := List.forall_mem_cons.mpr ⟨ckX7_looks, List.forall_mem_cons.mpr ⟨ckX7_worst, List.forall_mem_cons.mpr ⟨ckX7_all, List.forall_mem_cons.mpr ⟨ckX7_best, List.forall_mem_cons.mpr ⟨ckX7_turn, List.forall_mem_cons.mpr ⟨ckX7_next, List.forall_mem_cons.mpr ⟨ckX7_done, List.forall_mem_cons.mpr ⟨ckX7_women, List.forall_mem_cons.mpr ⟨ckX7_dry, List.forall_mem_cons.mpr ⟨ckX7_sprayings, List.forall_mem_cons.mpr ⟨ckX7_was, List.forall_mem_cons.mpr ⟨ckX7_age, List.forall_mem_cons.mpr ⟨ckX7_lacking, List.forall_mem_cons.mpr ⟨ckX7_wrong, List.forall_mem_cons.mpr ⟨ckX7_judge, List.forall_mem_cons.mpr ⟨ckX7_days, List.forall_mem_cons.mpr ⟨ckX7_seed, List.forall_mem_cons.mpr ⟨ckX7_act, List.forall_mem_cons.mpr ⟨ckX7_trace, List.forall_mem_cons.mpr ⟨ckX7_image, fun _ h => absurd h List.not_mem_nil⟩⟩⟩⟩⟩⟩⟩⟩⟩⟩⟩⟩⟩⟩⟩⟩⟩⟩⟩⟩
def ar_nums8 : List Nat := [160, 161, 162, 163, 164, 165, 166, 167, 168, 169, 170, 171, 172, 173, 174, 175, 176, 177, 178, 179]
theorem ar_numsOk8 : ∀ n ∈ ar_nums8, ar_all n = true := List.forall_mem_cons.mpr ⟨ckX7_restore, List.forall_mem_cons.mpr ⟨ckX7_status, List.forall_mem_cons.mpr ⟨ckX7_shelfAt, List.forall_mem_cons.mpr ⟨ckX7_isCell, List.forall_mem_cons.mpr ⟨ckX7_isHour, List.forall_mem_cons.mpr ⟨ckX7_areHours, List.forall_mem_cons.mpr ⟨ckX7_refuse, List.forall_mem_cons.mpr ⟨ckX7_refusalsOf, List.forall_mem_cons.mpr ⟨ckX7_tellingTrouble, List.forall_mem_cons.mpr ⟨ckX7_saidAs, List.forall_mem_cons.mpr ⟨ckX8_init, List.forall_mem_cons.mpr ⟨ckX8_no, List.forall_mem_cons.mpr ⟨ckX8_noTen, List.forall_mem_cons.mpr ⟨ckX8_isShelf, List.forall_mem_cons.mpr ⟨ckX8_isStuff, List.forall_mem_cons.mpr ⟨ckX8_isCell, List.forall_mem_cons.mpr ⟨ckX8_row, List.forall_mem_cons.mpr ⟨ckX8_set, List.forall_mem_cons.mpr ⟨ckX8_copy, List.forall_mem_cons.mpr ⟨ckX8_element, fun _ h => absurd h List.not_mem_nil⟩⟩⟩⟩⟩⟩⟩⟩⟩⟩⟩⟩⟩⟩⟩⟩⟩⟩⟩⟩
def ar_nums9 : List Nat := [180, 181, 182, 183, 184, 185, 186, 187, 188, 189, 190, 191, 192, 193, 194, 195, 196, 197, 198, 199]
theorem ar_numsOk9 : ∀ n ∈ ar_nums9, ar_all n = true := List.forall_mem_cons.mpr ⟨ckX8_show, List.forall_mem_cons.mpr ⟨ckX8_holds, List.forall_mem_cons.mpr ⟨ckX8_count, List.forall_mem_cons.mpr ⟨ckX8_says, List.forall_mem_cons.mpr ⟨ckX8_wanted, List.forall_mem_cons.mpr ⟨ckX8_intAt, List.forall_mem_cons.mpr ⟨ckX8_bars, List.forall_mem_cons.mpr ⟨ckX8_adds, List.forall_mem_cons.mpr ⟨ckX8_stuff, List.forall_mem_cons.mpr ⟨ckX8_stuffOf, List.forall_mem_cons.mpr ⟨ckX8_cell, List.forall_mem_cons.mpr ⟨ckX8_cellOf, List.forall_mem_cons.mpr ⟨ckX8_plan, List.forall_mem_cons.mpr ⟨ckX8_mayLay, List.forall_mem_cons.mpr ⟨ckX8_may, List.forall_mem_cons.mpr ⟨ckX8_laidMany, List.forall_mem_cons.mpr ⟨ckX8_puts, List.forall_mem_cons.mpr ⟨ckX8_lay, List.forall_mem_cons.mpr ⟨ckX8_strip, List.forall_mem_cons.mpr ⟨ckX8_spray, fun _ h => absurd h List.not_mem_nil⟩⟩⟩⟩⟩⟩⟩⟩⟩⟩⟩⟩⟩⟩⟩⟩⟩⟩⟩⟩
def ar_nums10 : List Nat := [200, 201, 202, 203, 204, 205, 206, 207, 208, 209, 210, 211, 212, 213, 214, 215, 216, 217, 218, 219]
theorem ar_numsOk10 : ∀ n ∈ ar_nums10, ar_all n = true := List.forall_mem_cons.mpr ⟨ckX8_side, List.forall_mem_cons.mpr ⟨ckX8_inSun, List.forall_mem_cons.mpr ⟨ckX8_dries, List.forall_mem_cons.mpr ⟨ckX8_goes, List.forall_mem_cons.mpr ⟨ckX8_isHour, List.forall_mem_cons.mpr ⟨ckX8_hours, List.forall_mem_cons.mpr ⟨ckX8_faulty, List.forall_mem_cons.mpr ⟨ckX8_isWordAt, List.forall_mem_cons.mpr ⟨ckX8_word, List.forall_mem_cons.mpr ⟨ckX8_isDigit, List.forall_mem_cons.mpr ⟨ckX8_number, List.forall_mem_cons.mpr ⟨ckX8_isSo, List.forall_mem_cons.mpr ⟨ckX8_item, List.forall_mem_cons.mpr ⟨ckX8_carries, List.forall_mem_cons.mpr ⟨ckX8_whole, List.forall_mem_cons.mpr ⟨ckX8_village, List.forall_mem_cons.mpr ⟨ckX8_fault, List.forall_mem_cons.mpr ⟨ckX8_brownOf, List.forall_mem_cons.mpr ⟨ckX8_freshOf, List.forall_mem_cons.mpr ⟨ckX8_freshAt, fun _ h => absurd h List.not_mem_nil⟩⟩⟩⟩⟩⟩⟩⟩⟩⟩⟩⟩⟩⟩⟩⟩⟩⟩⟩⟩
def ar_nums11 : List Nat := [220, 221, 222, 223, 224, 225, 226, 227, 228, 229, 230, 231, 232, 233, 234, 235, 236, 237, 238, 239]
theorem ar_numsOk11 : ∀ n ∈ ar_nums11, ar_all n = true := List.forall_mem_cons.mpr ⟨ckX8_beautyAt, List.forall_mem_cons.mpr ⟨ckX8_looksAt, List.forall_mem_cons.mpr ⟨ckX8_fresh, List.forall_mem_cons.mpr ⟨ckX8_beauty, List.forall_mem_cons.mpr ⟨ckX8_looks, List.forall_mem_cons.mpr ⟨ckX8_areHours, List.forall_mem_cons.mpr ⟨ckX8_worst, List.forall_mem_cons.mpr ⟨ckX8_allOf, List.forall_mem_cons.mpr ⟨ckX8_all, List.forall_mem_cons.mpr ⟨ckX8_best, List.forall_mem_cons.mpr ⟨ckX8_turn, List.forall_mem_cons.mpr ⟨ckX8_isOpen, List.forall_mem_cons.mpr ⟨ckX8_next, List.forall_mem_cons.mpr ⟨ckX8_takesAt, List.forall_mem_cons.mpr ⟨ckX8_seeks, List.forall_mem_cons.mpr ⟨ckX8_leftOf, List.forall_mem_cons.mpr ⟨ckX8_doneBy, List.forall_mem_cons.mpr ⟨ckX8_done, List.forall_mem_cons.mpr ⟨ckX8_women, List.forall_mem_cons.mpr ⟨ckX8_dry, fun _ h => absurd h List.not_mem_nil⟩⟩⟩⟩⟩⟩⟩⟩⟩⟩⟩⟩⟩⟩⟩⟩⟩⟩⟩⟩
def ar_nums12 : List Nat := [240, 241, 242, 243, 244, 245, 246, 247, 248, 249, 250, 251, 252, 253, 254, 255, 256, 257, 258, 259]
theorem ar_numsOk12 : ∀ n ∈ ar_nums12, ar_all n = true := List.forall_mem_cons.mpr ⟨ckX8_sprayings, List.forall_mem_cons.mpr ⟨ckX8_was, List.forall_mem_cons.mpr ⟨ckX8_age, List.forall_mem_cons.mpr ⟨ckX8_lacking, List.forall_mem_cons.mpr ⟨ckX8_wrong, List.forall_mem_cons.mpr ⟨ckX8_judge, List.forall_mem_cons.mpr ⟨ckX8_draw, List.forall_mem_cons.mpr ⟨ckX8_days, List.forall_mem_cons.mpr ⟨ckX8_seed, List.forall_mem_cons.mpr ⟨ckX8_body, List.forall_mem_cons.mpr ⟨ckX8_laying, List.forall_mem_cons.mpr ⟨ckX8_fading, List.forall_mem_cons.mpr ⟨ckX8_showing, List.forall_mem_cons.mpr ⟨ckX8_act, List.forall_mem_cons.mpr ⟨ckX8_trace, List.forall_mem_cons.mpr ⟨ckX8_image, List.forall_mem_cons.mpr ⟨ckX8_restore, List.forall_mem_cons.mpr ⟨ckX8_status, List.forall_mem_cons.mpr ⟨ckJ0_length_8abf5, List.forall_mem_cons.mpr ⟨ckJ0_charAt_5068e, fun _ h => absurd h List.not_mem_nil⟩⟩⟩⟩⟩⟩⟩⟩⟩⟩⟩⟩⟩⟩⟩⟩⟩⟩⟩⟩
def ar_nums13 : List Nat := [260, 261, 262, 263, 264, 265, 266]
theorem ar_numsOk13 : ∀ n ∈ ar_nums13, ar_all n = true := List.forall_mem_cons.mpr ⟨ckJ0_coder_7d493, List.forall_mem_cons.mpr ⟨ckJ0_isLatin1_aae02, List.forall_mem_cons.mpr ⟨ckJ0_checkIndex_df160, List.forall_mem_cons.mpr ⟨ckJ1_charAt_3b067, List.forall_mem_cons.mpr ⟨ckJ7_fill_d0a16, List.forall_mem_cons.mpr ⟨ckJ7_fill_53178, List.forall_mem_cons.mpr ⟨ckJ3_checkIndex_8e157, fun _ h => absurd h List.not_mem_nil⟩⟩⟩⟩⟩⟩⟩
def ar_nums : List Nat := ar_nums0 ++ (ar_nums1 ++ (ar_nums2 ++ (ar_nums3 ++ (ar_nums4 ++ (ar_nums5 ++ (ar_nums6 ++ (ar_nums7 ++ (ar_nums8 ++ (ar_nums9 ++ (ar_nums10 ++ (ar_nums11 ++ (ar_nums12 ++ (ar_nums13)))))))))))))
theorem ar_numsOk : ∀ n ∈ ar_nums, ar_all n = true := by
  unfold ar_nums
  exact List.forall_mem_append.mpr ⟨ar_numsOk0, List.forall_mem_append.mpr ⟨ar_numsOk1, List.forall_mem_append.mpr ⟨ar_numsOk2, List.forall_mem_append.mpr ⟨ar_numsOk3, List.forall_mem_append.mpr ⟨ar_numsOk4, List.forall_mem_append.mpr ⟨ar_numsOk5, List.forall_mem_append.mpr ⟨ar_numsOk6, List.forall_mem_append.mpr ⟨ar_numsOk7, List.forall_mem_append.mpr ⟨ar_numsOk8, List.forall_mem_append.mpr ⟨ar_numsOk9, List.forall_mem_append.mpr ⟨ar_numsOk10, List.forall_mem_append.mpr ⟨ar_numsOk11, List.forall_mem_append.mpr ⟨ar_numsOk12, ar_numsOk13⟩⟩⟩⟩⟩⟩⟩⟩⟩⟩⟩⟩⟩
theorem ar_every (y : Nat) (hy : y < 267) : ar_all y = true := by
  have key : ∀ (l : List Nat), (∀ n ∈ l, ar_all n = true) → y ∈ l → ar_all y = true := fun l h hm => h y hm
  refine key (List.range 267) ?_ (List.mem_range.mpr hy)
  have e : List.range 267 = ar_nums := by decide +kernel
  rw [e]
  exact ar_numsOk
