/-! THE CODE TABLES ARE THE CODE: each entry against the decoded bytes and the tables' words, by evaluation. The methods' rows are laid by program. -/

def am_mt (y : Nat) : MethodName × ByteArray × Nat × Option FieldType × List Nat := bif Nat.blt y 133 then bif Nat.blt y 66 then bif Nat.blt y 33 then bif Nat.blt y 16 then bif Nat.blt y 8 then bif Nat.blt y 4 then bif Nat.blt y 2 then bif Nat.blt y 1 then (yX0_init, cX0_init, 1, none, [2, 0, 78, 194, 193]) else (yX0_forget, cX0_forget, 1, none, [1, 0, 78, 965, 963, 964]) else bif Nat.blt y 3 then (yX0_bodiesRun, cX0_bodiesRun, 1, (some FieldType.int), [1, 0, 78, 1017, 1015, 1016]) else (yX0_bodyAt, cX0_bodyAt, 2, (some FieldType.int), [1, 1, 78, 996, 994, 995]) else bif Nat.blt y 6 then bif Nat.blt y 5 then (yX0_perform, cX0_perform, 5, (some FieldType.int), [1, 4, 78, 969, 967, 968]) else (yX0_noteBegun, cX0_noteBegun, 2, none, [1, 1, 78, 988, 987, 27]) else bif Nat.blt y 7 then (yX0_ownBody, cX0_ownBody, 3, (some FieldType.int), [0, 2, 78, 981, 980]) else (yX0_kindWithBody, cX0_kindWithBody, 4, (some FieldType.int), [0, 2, 78, 978, 977]) else bif Nat.blt y 12 then bif Nat.blt y 10 then bif Nat.blt y 9 then (yX0_runBody, cX0_runBody, 11, (some FieldType.int), [0, 5, 78, 975, 974]) else (yX1_init, cX1_init, 1, none, [2, 0, 74, 103, 102]) else bif Nat.blt y 11 then (yX1_becomeLike, cX1_becomeLike, 2, none, [1, 1, 74, 497, 495, 496]) else (yX1_isStuff, cX1_isStuff, 2, (some FieldType.boolean), [1, 1, 74, 356, 354, 355]) else bif Nat.blt y 14 then bif Nat.blt y 13 then (yX1_stuffCount, cX1_stuffCount, 1, (some FieldType.int), [1, 0, 74, 626, 624, 625]) else (yX1_hasRoom, cX1_hasRoom, 1, (some FieldType.boolean), [1, 0, 74, 432, 430, 431]) else bif Nat.blt y 15 then (yX1_addStuff, cX1_addStuff, 4, (some FieldType.int), [1, 3, 74, 436, 434, 435]) else (yX1_kindOf, cX1_kindOf, 2, (some FieldType.int), [1, 1, 74, 385, 383, 384]) else bif Nat.blt y 24 then bif Nat.blt y 20 then bif Nat.blt y 18 then bif Nat.blt y 17 then (yX1_colourOf, cX1_colourOf, 2, (some FieldType.int), [1, 1, 74, 402, 400, 401]) else (yX1_aOf, cX1_aOf, 2, (some FieldType.int), [1, 1, 74, 417, 415, 416]) else bif Nat.blt y 19 then (yX1_cellsLaidWith, cX1_cellsLaidWith, 2, (some FieldType.int), [1, 1, 74, 406, 404, 405]) else (yX1_cellsPlannedWith, cX1_cellsPlannedWith, 2, (some FieldType.int), [1, 1, 74, 413, 411, 412]) else bif Nat.blt y 22 then bif Nat.blt y 21 then (yX1_countOf, cX1_countOf, 7, (some FieldType.int), [0, 2, 74, 409, 408]) else (yX1_drawnAt, cX1_drawnAt, 2, (some FieldType.int), [1, 1, 74, 461, 459, 460]) else bif Nat.blt y 23 then (yX1_laidAt, cX1_laidAt, 2, (some FieldType.int), [1, 1, 74, 465, 463, 464]) else (yX1_plannedAt, cX1_plannedAt, 2, (some FieldType.int), [1, 1, 74, 469, 467, 468]) else bif Nat.blt y 28 then bif Nat.blt y 26 then bif Nat.blt y 25 then (yX1_sunAt, cX1_sunAt, 2, (some FieldType.int), [1, 1, 74, 473, 471, 472]) else (yX1_shadeAt, cX1_shadeAt, 2, (some FieldType.int), [1, 1, 74, 477, 475, 476]) else bif Nat.blt y 27 then (yX1_spraysAt, cX1_spraysAt, 2, (some FieldType.int), [1, 1, 74, 481, 479, 480]) else (yX1_laidCount, cX1_laidCount, 1, (some FieldType.int), [1, 0, 74, 704, 702, 703]) else bif Nat.blt y 30 then bif Nat.blt y 29 then (yX1_isPlannedBare, cX1_isPlannedBare, 2, (some FieldType.boolean), [1, 1, 74, 844, 842, 843]) else (yX1_draw, cX1_draw, 3, none, [1, 2, 74, 452, 450, 451]) else bif Nat.blt y 31 then (yX1_planFor, cX1_planFor, 3, none, [1, 2, 74, 489, 487, 488]) else bif Nat.blt y 32 then (yX1_mayBeLaid, cX1_mayBeLaid, 3, (some FieldType.boolean), [1, 1, 74, 635, 633, 634]) else (yX1_layOn, cX1_layOn, 3, none, [1, 2, 74, 641, 639, 640]) else bif Nat.blt y 49 then bif Nat.blt y 41 then bif Nat.blt y 37 then bif Nat.blt y 35 then bif Nat.blt y 34 then (yX1_makeBare, cX1_makeBare, 2, none, [1, 1, 74, 712, 710, 711]) else (yX1_takeOver, cX1_takeOver, 3, none, [1, 2, 74, 645, 644, 17]) else bif Nat.blt y 36 then (yX1_wetness, cX1_wetness, 1, (some FieldType.int), [1, 0, 74, 721, 719, 720]) else (yX1_sunnySide, cX1_sunnySide, 1, (some FieldType.int), [1, 0, 74, 729, 727, 728]) else bif Nat.blt y 39 then bif Nat.blt y 38 then (yX1_hourNow, cX1_hourNow, 1, (some FieldType.int), [1, 0, 74, 739, 737, 738]) else (yX1_crackCount, cX1_crackCount, 1, (some FieldType.int), [1, 0, 74, 1013, 1011, 1012]) else bif Nat.blt y 40 then (yX1_turnTo, cX1_turnTo, 2, none, [1, 1, 74, 653, 651, 652]) else (yX1_driedByAnHour, cX1_driedByAnHour, 1, (some FieldType.int), [1, 0, 74, 680, 678, 679]) else bif Nat.blt y 45 then bif Nat.blt y 43 then bif Nat.blt y 42 then (yX1_wetBySpray, cX1_wetBySpray, 1, (some FieldType.int), [0, 1, 74, 660, 659]) else (yX1_isInSun, cX1_isInSun, 3, (some FieldType.boolean), [0, 2, 74, 672, 671]) else bif Nat.blt y 44 then (yX1_sprayOnce, cX1_sprayOnce, 2, none, [1, 0, 74, 657, 655, 656]) else (yX1_passHours, cX1_passHours, 3, none, [1, 1, 74, 669, 667, 668]) else bif Nat.blt y 47 then bif Nat.blt y 46 then (yX1_dryForAnHour, cX1_dryForAnHour, 1, none, [1, 0, 74, 676, 675, 20]) else (yX1_seedNow, cX1_seedNow, 1, (some FieldType.int), [1, 0, 74, 953, 951, 952]) else bif Nat.blt y 48 then (yX1_sow, cX1_sow, 2, none, [1, 1, 74, 957, 955, 956]) else (yX1_drawBelow, cX1_drawBelow, 2, (some FieldType.int), [1, 1, 74, 940, 939, 26]) else bif Nat.blt y 57 then bif Nat.blt y 53 then bif Nat.blt y 51 then bif Nat.blt y 50 then (yX1_passDays, cX1_passDays, 4, (some FieldType.int), [1, 1, 74, 936, 934, 935]) else (yX2_above, cX2_above, 1, (some FieldType.int), [0, 1, 83, 392, 391]) else bif Nat.blt y 52 then (yX2_isUnder, cX2_isUnder, 4, (some FieldType.boolean), [0, 2, 83, 389, 388]) else (yX2_brown, cX2_brown, 5, (some FieldType.int), [0, 4, 83, 423, 422]) else bif Nat.blt y 55 then bif Nat.blt y 54 then (yX2_freshness, cX2_freshness, 7, (some FieldType.int), [0, 5, 83, 420, 419]) else (yX3_init, cX3_init, 1, none, [2, 0, 79, 215, 214]) else bif Nat.blt y 56 then (yX3_holdsRow, cX3_holdsRow, 1, (some FieldType.boolean), [1, 0, 79, 305, 303, 304]) else (yX3_holdsStuff, cX3_holdsStuff, 1, (some FieldType.boolean), [1, 0, 79, 301, 299, 300]) else bif Nat.blt y 61 then bif Nat.blt y 59 then bif Nat.blt y 58 then (yX3_stuffHeld, cX3_stuffHeld, 1, (some FieldType.int), [1, 0, 79, 376, 374, 375]) else (yX3_rowSize, cX3_rowSize, 1, (some FieldType.int), [1, 0, 79, 510, 508, 509]) else bif Nat.blt y 60 then (yX3_told, cX3_told, 1, (some FieldType.int), [1, 0, 79, 372, 370, 371]) else (yX3_rowTrouble, cX3_rowTrouble, 1, (some FieldType.int), [1, 0, 79, 297, 295, 296]) else bif Nat.blt y 63 then bif Nat.blt y 62 then (yX3_isOfOtherSort, cX3_isOfOtherSort, 2, (some FieldType.boolean), [1, 1, 79, 327, 325, 326]) else (yX3_takeNothing, cX3_takeNothing, 1, none, [1, 0, 79, 360, 358, 359]) else bif Nat.blt y 64 then (yX3_takeStuff, cX3_takeStuff, 2, none, [1, 1, 79, 364, 362, 363]) else bif Nat.blt y 65 then (yX3_takeRow, cX3_takeRow, 3, none, [1, 2, 79, 280, 278, 279]) else (yX3_hasElement, cX3_hasElement, 2, (some FieldType.boolean), [1, 1, 79, 309, 307, 308]) else bif Nat.blt y 99 then bif Nat.blt y 82 then bif Nat.blt y 74 then bif Nat.blt y 70 then bif Nat.blt y 68 then bif Nat.blt y 67 then (yX3_hasElements, cX3_hasElements, 3, (some FieldType.boolean), [1, 2, 79, 332, 330, 331]) else (yX3_put, cX3_put, 4, none, [1, 2, 79, 313, 311, 312]) else bif Nat.blt y 69 then (yX3_cut, cX3_cut, 3, (some FieldType.long), [1, 1, 79, 318, 317, 2]) else (yX3_elementAt, cX3_elementAt, 2, (some FieldType.long), [1, 1, 79, 348, 346, 347]) else bif Nat.blt y 72 then bif Nat.blt y 71 then (yX3_toldAt, cX3_toldAt, 2, (some FieldType.int), [1, 1, 79, 515, 513, 514]) else (yX3_copyTo, cX3_copyTo, 5, none, [1, 4, 79, 336, 334, 335]) else bif Nat.blt y 73 then (yX4_freshBehind, cX4_freshBehind, 8, (some FieldType.int), [0, 4, 88, 749, 748]) else (yX4_hasItsColour, cX4_hasItsColour, 3, (some FieldType.boolean), [0, 2, 88, 767, 766]) else bif Nat.blt y 78 then bif Nat.blt y 76 then bif Nat.blt y 75 then (yX4_beautyBehind, cX4_beautyBehind, 4, (some FieldType.int), [0, 4, 88, 764, 763]) else (yX4_looksBehind, cX4_looksBehind, 5, (some FieldType.int), [0, 3, 88, 777, 776]) else bif Nat.blt y 77 then (yX4_worstHour, cX4_worstHour, 7, (some FieldType.int), [0, 3, 88, 787, 786]) else (yX4_looksTogether, cX4_looksTogether, 6, (some FieldType.int), [0, 4, 88, 796, 795]) else bif Nat.blt y 80 then bif Nat.blt y 79 then (yX4_bestSide, cX4_bestSide, 7, (some FieldType.int), [0, 3, 88, 815, 814]) else (yX4_bestStuff, cX4_bestStuff, 10, (some FieldType.int), [0, 5, 88, 803, 802]) else bif Nat.blt y 81 then (yX4_worthLaidNow, cX4_worthLaidNow, 10, (some FieldType.int), [0, 6, 88, 807, 806]) else (yX4_nextCell, cX4_nextCell, 4, (some FieldType.int), [0, 1, 88, 823, 822]) else bif Nat.blt y 90 then bif Nat.blt y 86 then bif Nat.blt y 84 then bif Nat.blt y 83 then (yX4_firstDryHour, cX4_firstDryHour, 3, (some FieldType.int), [0, 1, 88, 873, 872]) else (yX4_spraysNeeded, cX4_spraysNeeded, 5, (some FieldType.int), [0, 2, 88, 883, 882]) else bif Nat.blt y 85 then (yX4_stuffsAsFresh, cX4_stuffsAsFresh, 7, (some FieldType.int), [0, 5, 88, 891, 890]) else (yX4_hourAsTold, cX4_hourAsTold, 3, (some FieldType.int), [0, 2, 88, 901, 900]) else bif Nat.blt y 88 then bif Nat.blt y 87 then (yX4_isAsTold, cX4_isAsTold, 5, (some FieldType.boolean), [0, 3, 88, 904, 903]) else (yX4_coloursLacking, cX4_coloursLacking, 4, (some FieldType.int), [0, 1, 88, 912, 911]) else bif Nat.blt y 89 then (yX4_cellsWrong, cX4_cellsWrong, 3, (some FieldType.int), [0, 1, 88, 919, 918]) else (yX4_firstBadLaying, cX4_firstBadLaying, 7, (some FieldType.int), [0, 3, 88, 926, 925]) else bif Nat.blt y 94 then bif Nat.blt y 92 then bif Nat.blt y 91 then (yX5_init, cX5_init, 1, none, [2, 0, 76, 159, 158]) else (yX5_faultFound, cX5_faultFound, 1, (some FieldType.int), [1, 0, 76, 685, 683, 684]) else bif Nat.blt y 93 then (yX5_tell, cX5_tell, 4, (some FieldType.int), [1, 2, 76, 502, 500, 501]) else (yX5_takeLetters, cX5_takeLetters, 3, none, [1, 1, 76, 506, 505, 4]) else bif Nat.blt y 96 then bif Nat.blt y 95 then (yX5_fail, cX5_fail, 2, none, [1, 1, 76, 595, 594, 9]) else (yX5_wordOf, cX5_wordOf, 1, (some (FieldType.object "java/lang/String")), [0, 1, 76, 527, 526]) else bif Nat.blt y 97 then (yX5_readItem, cX5_readItem, 4, none, [1, 1, 76, 520, 519, 5]) else bif Nat.blt y 98 then (yX5_readWord, cX5_readWord, 5, (some FieldType.int), [1, 0, 76, 524, 523, 6]) else (yX5_lettersAlike, cX5_lettersAlike, 3, (some FieldType.int), [1, 1, 76, 538, 537, 7]) else bif Nat.blt y 116 then bif Nat.blt y 107 then bif Nat.blt y 103 then bif Nat.blt y 101 then bif Nat.blt y 100 then (yX5_letterAt, cX5_letterAt, 2, (some FieldType.int), [1, 1, 76, 552, 551, 8]) else (yX5_readSign, cX5_readSign, 2, none, [1, 1, 76, 608, 607, 12]) else bif Nat.blt y 102 then (yX5_isDigit, cX5_isDigit, 2, (some FieldType.boolean), [1, 1, 76, 612, 611, 13]) else (yX5_readNumber, cX5_readNumber, 5, (some FieldType.int), [1, 2, 76, 604, 603, 11]) else bif Nat.blt y 105 then bif Nat.blt y 104 then (yX5_readStuff, cX5_readStuff, 6, none, [1, 2, 76, 599, 598, 10]) else (yX5_readCell, cX5_readCell, 4, none, [1, 1, 76, 617, 616, 14]) else bif Nat.blt y 106 then (yX5_readPlan, cX5_readPlan, 4, none, [1, 1, 76, 622, 621, 15]) else (yX5_readLaying, cX5_readLaying, 5, none, [1, 1, 76, 631, 630, 16]) else bif Nat.blt y 111 then bif Nat.blt y 109 then bif Nat.blt y 108 then (yX5_readSide, cX5_readSide, 3, none, [1, 1, 76, 649, 648, 18]) else (yX5_readHours, cX5_readHours, 3, none, [1, 1, 76, 665, 664, 19]) else bif Nat.blt y 110 then (yX6_init, cX6_init, 1, none, [2, 0, 77, 178, 177]) else (yX6_lastMinute, cX6_lastMinute, 5, (some FieldType.int), [1, 2, 77, 833, 831, 832]) else bif Nat.blt y 113 then bif Nat.blt y 112 then (yX6_minutesFor, cX6_minutesFor, 2, (some FieldType.int), [0, 2, 77, 840, 839]) else (yX6_begin, cX6_begin, 4, none, [1, 1, 77, 837, 836, 21]) else bif Nat.blt y 114 then (yX6_finish, cX6_finish, 4, (some FieldType.int), [1, 1, 77, 850, 849, 22]) else bif Nat.blt y 115 then (yX6_takeCells, cX6_takeCells, 6, (some FieldType.int), [1, 3, 77, 854, 853, 23]) else (yX6_fullestIdleColumn, cX6_fullestIdleColumn, 4, (some FieldType.int), [1, 0, 77, 858, 857, 24]) else bif Nat.blt y 124 then bif Nat.blt y 120 then bif Nat.blt y 118 then bif Nat.blt y 117 then (yX6_takeNextOf, cX6_takeNextOf, 6, none, [1, 3, 77, 862, 861, 25]) else (yX7_init, cX7_init, 2, none, [2, 0, 73, 93, 92]) else bif Nat.blt y 119 then (yX7_row, cX7_row, 5, (some FieldType.int), [1, 3, 73, 268, 266, 267]) else (yX7_set, cX7_set, 7, (some FieldType.int), [1, 3, 73, 293, 291, 292]) else bif Nat.blt y 122 then bif Nat.blt y 121 then (yX7_copy, cX7_copy, 8, (some FieldType.int), [1, 5, 73, 322, 320, 321]) else (yX7_element, cX7_element, 4, (some FieldType.long), [1, 2, 73, 344, 342, 343]) else bif Nat.blt y 123 then (yX7_show, cX7_show, 4, (some FieldType.int), [1, 2, 73, 352, 350, 351]) else (yX7_holds, cX7_holds, 3, (some FieldType.int), [1, 1, 73, 368, 366, 367]) else bif Nat.blt y 128 then bif Nat.blt y 126 then bif Nat.blt y 125 then (yX7_says, cX7_says, 5, (some FieldType.int), [1, 2, 73, 380, 378, 379]) else (yX7_stuff, cX7_stuff, 4, (some FieldType.int), [1, 3, 73, 428, 426, 427]) else bif Nat.blt y 127 then (yX7_stuffOf, cX7_stuffOf, 3, (some FieldType.int), [1, 2, 73, 441, 439, 440]) else (yX7_cell, cX7_cell, 3, (some FieldType.int), [1, 2, 73, 445, 443, 444]) else bif Nat.blt y 130 then bif Nat.blt y 129 then (yX7_cellOf, cX7_cellOf, 3, (some FieldType.int), [1, 2, 73, 457, 455, 456]) else (yX7_plan, cX7_plan, 3, (some FieldType.int), [1, 2, 73, 485, 483, 484]) else bif Nat.blt y 131 then (yX7_village, cX7_village, 5, (some FieldType.int), [1, 1, 73, 493, 491, 492]) else bif Nat.blt y 132 then (yX7_fault, cX7_fault, 1, (some FieldType.int), [1, 0, 73, 690, 688, 689]) else (yX7_may, cX7_may, 2, (some FieldType.int), [1, 1, 73, 694, 692, 693]) else bif Nat.blt y 200 then bif Nat.blt y 166 then bif Nat.blt y 149 then bif Nat.blt y 141 then bif Nat.blt y 137 then bif Nat.blt y 135 then bif Nat.blt y 134 then (yX7_lay, cX7_lay, 3, (some FieldType.int), [1, 2, 73, 699, 697, 698]) else (yX7_strip, cX7_strip, 3, (some FieldType.int), [1, 1, 73, 708, 706, 707]) else bif Nat.blt y 136 then (yX7_spray, cX7_spray, 1, (some FieldType.int), [1, 0, 73, 716, 714, 715]) else (yX7_side, cX7_side, 3, (some FieldType.int), [1, 1, 73, 725, 723, 724]) else bif Nat.blt y 139 then bif Nat.blt y 138 then (yX7_hours, cX7_hours, 2, (some FieldType.int), [1, 1, 73, 734, 732, 733]) else (yX7_fresh, cX7_fresh, 3, (some FieldType.int), [1, 2, 73, 743, 741, 742]) else bif Nat.blt y 140 then (yX7_beauty, cX7_beauty, 3, (some FieldType.int), [1, 2, 73, 761, 759, 760]) else (yX7_looks, cX7_looks, 2, (some FieldType.int), [1, 1, 73, 774, 772, 773]) else bif Nat.blt y 145 then bif Nat.blt y 143 then bif Nat.blt y 142 then (yX7_worst, cX7_worst, 3, (some FieldType.int), [1, 2, 73, 781, 779, 780]) else (yX7_all, cX7_all, 3, (some FieldType.int), [1, 2, 73, 793, 791, 792]) else bif Nat.blt y 144 then (yX7_best, cX7_best, 5, (some FieldType.int), [1, 4, 73, 800, 798, 799]) else (yX7_turn, cX7_turn, 3, (some FieldType.int), [1, 2, 73, 812, 810, 811]) else bif Nat.blt y 147 then bif Nat.blt y 146 then (yX7_next, cX7_next, 1, (some FieldType.int), [1, 0, 73, 820, 818, 819]) else (yX7_done, cX7_done, 2, (some FieldType.int), [1, 1, 73, 829, 827, 828]) else bif Nat.blt y 148 then (yX7_women, cX7_women, 3, (some FieldType.int), [1, 1, 73, 866, 864, 865]) else (yX7_dry, cX7_dry, 1, (some FieldType.int), [1, 0, 73, 870, 868, 869]) else bif Nat.blt y 157 then bif Nat.blt y 153 then bif Nat.blt y 151 then bif Nat.blt y 150 then (yX7_sprayings, cX7_sprayings, 2, (some FieldType.int), [1, 1, 73, 880, 878, 879]) else (yX7_was, cX7_was, 6, (some FieldType.int), [1, 4, 73, 888, 886, 887]) else bif Nat.blt y 152 then (yX7_age, cX7_age, 5, (some FieldType.int), [1, 2, 73, 895, 893, 894]) else (yX7_lacking, cX7_lacking, 1, (some FieldType.int), [1, 0, 73, 909, 907, 908]) else bif Nat.blt y 155 then bif Nat.blt y 154 then (yX7_wrong, cX7_wrong, 1, (some FieldType.int), [1, 0, 73, 916, 914, 915]) else (yX7_judge, cX7_judge, 5, (some FieldType.int), [1, 2, 73, 923, 921, 922]) else bif Nat.blt y 156 then (yX7_days, cX7_days, 2, (some FieldType.int), [1, 1, 73, 932, 930, 931]) else (yX7_seed, cX7_seed, 3, (some FieldType.int), [1, 1, 73, 949, 947, 948]) else bif Nat.blt y 161 then bif Nat.blt y 159 then bif Nat.blt y 158 then (yX7_act, cX7_act, 4, (some FieldType.int), [1, 3, 73, 961, 959, 960]) else (yX7_trace, cX7_trace, 2, (some FieldType.int), [1, 1, 73, 992, 990, 991]) else bif Nat.blt y 160 then (yX7_image, cX7_image, 1, (some FieldType.int), [1, 0, 73, 1000, 998, 999]) else (yX7_restore, cX7_restore, 3, (some FieldType.int), [1, 0, 73, 1005, 1003, 1004]) else bif Nat.blt y 163 then bif Nat.blt y 162 then (yX7_status, cX7_status, 2, (some FieldType.int), [1, 1, 73, 1009, 1007, 1008]) else (yX7_shelfAt, cX7_shelfAt, 2, (some (FieldType.object "PetalPictures$Shelf")), [1, 1, 73, 272, 271, 0]) else bif Nat.blt y 164 then (yX7_isCell, cX7_isCell, 1, (some FieldType.boolean), [0, 1, 73, 448, 447]) else bif Nat.blt y 165 then (yX7_isHour, cX7_isHour, 1, (some FieldType.boolean), [0, 1, 73, 746, 745]) else (yX7_areHours, cX7_areHours, 2, (some FieldType.boolean), [0, 2, 73, 784, 783]) else bif Nat.blt y 183 then bif Nat.blt y 174 then bif Nat.blt y 170 then bif Nat.blt y 168 then bif Nat.blt y 167 then (yX7_refuse, cX7_refuse, 4, (some FieldType.int), [1, 1, 73, 276, 275, 1]) else (yX7_refusalsOf, cX7_refusalsOf, 2, (some FieldType.int), [1, 1, 73, 1021, 1020, 28]) else bif Nat.blt y 169 then (yX7_tellingTrouble, cX7_tellingTrouble, 3, (some FieldType.int), [0, 2, 73, 898, 897]) else (yX7_saidAs, cX7_saidAs, 3, (some FieldType.int), [1, 2, 73, 398, 397, 3]) else bif Nat.blt y 172 then bif Nat.blt y 171 then (yX8_init, cX8_init, 2, none, [2, 0, 80, 1026, 1025]) else (yX8_no, cX8_no, 2, (some FieldType.int), [1, 1, 80, 1157, 1156, 30]) else bif Nat.blt y 173 then (yX8_noTen, cX8_noTen, 2, (some FieldType.int), [1, 1, 80, 1225, 1224, 37]) else (yX8_isShelf, cX8_isShelf, 2, (some FieldType.boolean), [1, 1, 80, 1153, 1152, 29]) else bif Nat.blt y 178 then bif Nat.blt y 176 then bif Nat.blt y 175 then (yX8_isStuff, cX8_isStuff, 2, (some FieldType.boolean), [1, 1, 80, 1177, 1176, 31]) else (yX8_isCell, cX8_isCell, 2, (some FieldType.boolean), [1, 1, 80, 1217, 1216, 36]) else bif Nat.blt y 177 then (yX8_row, cX8_row, 5, (some FieldType.int), [1, 3, 80, 1149, 1147, 1148]) else (yX8_set, cX8_set, 5, (some FieldType.int), [1, 3, 80, 1161, 1159, 1160]) else bif Nat.blt y 180 then bif Nat.blt y 179 then (yX8_copy, cX8_copy, 7, (some FieldType.int), [1, 5, 80, 1165, 1163, 1164]) else (yX8_element, cX8_element, 3, (some FieldType.long), [1, 2, 80, 1169, 1167, 1168]) else bif Nat.blt y 181 then (yX8_show, cX8_show, 3, (some FieldType.int), [1, 2, 80, 1173, 1171, 1172]) else bif Nat.blt y 182 then (yX8_holds, cX8_holds, 2, (some FieldType.int), [1, 1, 80, 1181, 1179, 1180]) else (yX8_count, cX8_count, 5, (some FieldType.int), [1, 2, 80, 1189, 1188, 32]) else bif Nat.blt y 191 then bif Nat.blt y 187 then bif Nat.blt y 185 then bif Nat.blt y 184 then (yX8_says, cX8_says, 6, (some FieldType.int), [1, 2, 80, 1185, 1183, 1184]) else (yX8_wanted, cX8_wanted, 2, (some FieldType.int), [1, 1, 80, 1285, 1284, 44]) else bif Nat.blt y 186 then (yX8_intAt, cX8_intAt, 3, (some FieldType.int), [1, 2, 80, 1434, 1433, 66]) else (yX8_bars, cX8_bars, 4, (some FieldType.int), [1, 2, 80, 1430, 1429, 65]) else bif Nat.blt y 189 then bif Nat.blt y 188 then (yX8_adds, cX8_adds, 4, (some FieldType.int), [1, 3, 80, 1205, 1204, 35]) else (yX8_stuff, cX8_stuff, 4, (some FieldType.int), [1, 3, 80, 1201, 1199, 1200]) else bif Nat.blt y 190 then (yX8_stuffOf, cX8_stuffOf, 3, (some FieldType.int), [1, 2, 80, 1209, 1207, 1208]) else (yX8_cell, cX8_cell, 3, (some FieldType.int), [1, 2, 80, 1213, 1211, 1212]) else bif Nat.blt y 195 then bif Nat.blt y 193 then bif Nat.blt y 192 then (yX8_cellOf, cX8_cellOf, 3, (some FieldType.int), [1, 2, 80, 1221, 1219, 1220]) else (yX8_plan, cX8_plan, 3, (some FieldType.int), [1, 2, 80, 1229, 1227, 1228]) else bif Nat.blt y 194 then (yX8_mayLay, cX8_mayLay, 2, (some FieldType.boolean), [1, 1, 80, 1237, 1236, 38]) else (yX8_may, cX8_may, 2, (some FieldType.int), [1, 1, 80, 1233, 1231, 1232]) else bif Nat.blt y 197 then bif Nat.blt y 196 then (yX8_laidMany, cX8_laidMany, 1, (some FieldType.int), [1, 0, 80, 1249, 1248, 40]) else (yX8_puts, cX8_puts, 3, none, [1, 2, 80, 1245, 1244, 39]) else bif Nat.blt y 198 then (yX8_lay, cX8_lay, 3, (some FieldType.int), [1, 2, 80, 1241, 1239, 1240]) else bif Nat.blt y 199 then (yX8_strip, cX8_strip, 3, (some FieldType.int), [1, 1, 80, 1253, 1251, 1252]) else (yX8_spray, cX8_spray, 2, (some FieldType.int), [1, 0, 80, 1257, 1255, 1256]) else bif Nat.blt y 233 then bif Nat.blt y 216 then bif Nat.blt y 208 then bif Nat.blt y 204 then bif Nat.blt y 202 then bif Nat.blt y 201 then (yX8_side, cX8_side, 3, (some FieldType.int), [1, 1, 80, 1261, 1259, 1260]) else (yX8_inSun, cX8_inSun, 2, (some FieldType.boolean), [1, 1, 80, 1273, 1272, 42]) else bif Nat.blt y 203 then (yX8_dries, cX8_dries, 3, (some FieldType.int), [1, 1, 80, 1277, 1276, 43]) else (yX8_goes, cX8_goes, 4, none, [1, 1, 80, 1269, 1268, 41]) else bif Nat.blt y 206 then bif Nat.blt y 205 then (yX8_isHour, cX8_isHour, 2, (some FieldType.boolean), [1, 1, 80, 1334, 1333, 54]) else (yX8_hours, cX8_hours, 2, (some FieldType.int), [1, 1, 80, 1265, 1263, 1264]) else bif Nat.blt y 207 then (yX8_faulty, cX8_faulty, 2, (some FieldType.boolean), [1, 1, 80, 1305, 1304, 49]) else (yX8_isWordAt, cX8_isWordAt, 4, (some FieldType.boolean), [1, 1, 80, 1301, 1300, 48]) else bif Nat.blt y 212 then bif Nat.blt y 210 then bif Nat.blt y 209 then (yX8_word, cX8_word, 6, (some FieldType.int), [1, 0, 80, 1309, 1308, 50]) else (yX8_isDigit, cX8_isDigit, 1, (some FieldType.boolean), [1, 0, 80, 1317, 1316, 52]) else bif Nat.blt y 211 then (yX8_number, cX8_number, 1, (some FieldType.boolean), [1, 0, 80, 1313, 1312, 51]) else (yX8_isSo, cX8_isSo, 3, (some FieldType.boolean), [1, 2, 80, 1321, 1320, 53]) else bif Nat.blt y 214 then bif Nat.blt y 213 then (yX8_item, cX8_item, 5, (some FieldType.boolean), [1, 0, 80, 1297, 1296, 47]) else (yX8_carries, cX8_carries, 7, (some FieldType.int), [1, 5, 80, 1293, 1292, 46]) else bif Nat.blt y 215 then (yX8_whole, cX8_whole, 4, none, [1, 2, 80, 1289, 1288, 45]) else (yX8_village, cX8_village, 5, (some FieldType.int), [1, 1, 80, 1281, 1279, 1280]) else bif Nat.blt y 224 then bif Nat.blt y 220 then bif Nat.blt y 218 then bif Nat.blt y 217 then (yX8_fault, cX8_fault, 1, (some FieldType.int), [1, 0, 80, 1326, 1324, 1325]) else (yX8_brownOf, cX8_brownOf, 7, (some FieldType.int), [1, 4, 80, 1197, 1196, 34]) else bif Nat.blt y 219 then (yX8_freshOf, cX8_freshOf, 6, (some FieldType.int), [1, 4, 80, 1193, 1192, 33]) else (yX8_freshAt, cX8_freshAt, 3, (some FieldType.int), [1, 2, 80, 1338, 1337, 55]) else bif Nat.blt y 222 then bif Nat.blt y 221 then (yX8_beautyAt, cX8_beautyAt, 3, (some FieldType.int), [1, 2, 80, 1346, 1345, 56]) else (yX8_looksAt, cX8_looksAt, 4, (some FieldType.int), [1, 1, 80, 1354, 1353, 57]) else bif Nat.blt y 223 then (yX8_fresh, cX8_fresh, 3, (some FieldType.int), [1, 2, 80, 1330, 1328, 1329]) else (yX8_beauty, cX8_beauty, 3, (some FieldType.int), [1, 2, 80, 1342, 1340, 1341]) else bif Nat.blt y 228 then bif Nat.blt y 226 then bif Nat.blt y 225 then (yX8_looks, cX8_looks, 2, (some FieldType.int), [1, 1, 80, 1350, 1348, 1349]) else (yX8_areHours, cX8_areHours, 3, (some FieldType.boolean), [1, 2, 80, 1362, 1361, 58]) else bif Nat.blt y 227 then (yX8_worst, cX8_worst, 7, (some FieldType.int), [1, 2, 80, 1358, 1356, 1357]) else (yX8_allOf, cX8_allOf, 5, (some FieldType.int), [1, 2, 80, 1370, 1369, 59]) else bif Nat.blt y 230 then bif Nat.blt y 229 then (yX8_all, cX8_all, 3, (some FieldType.int), [1, 2, 80, 1366, 1364, 1365]) else (yX8_best, cX8_best, 12, (some FieldType.int), [1, 4, 80, 1374, 1372, 1373]) else bif Nat.blt y 231 then (yX8_turn, cX8_turn, 7, (some FieldType.int), [1, 2, 80, 1378, 1376, 1377]) else bif Nat.blt y 232 then (yX8_isOpen, cX8_isOpen, 2, (some FieldType.boolean), [1, 1, 80, 1386, 1385, 60]) else (yX8_next, cX8_next, 3, (some FieldType.int), [1, 0, 80, 1382, 1380, 1381]) else bif Nat.blt y 250 then bif Nat.blt y 241 then bif Nat.blt y 237 then bif Nat.blt y 235 then bif Nat.blt y 234 then (yX8_takesAt, cX8_takesAt, 2, (some FieldType.int), [1, 1, 80, 1402, 1401, 63]) else (yX8_seeks, cX8_seeks, 4, none, [1, 2, 80, 1398, 1397, 62]) else bif Nat.blt y 236 then (yX8_leftOf, cX8_leftOf, 4, (some FieldType.int), [1, 1, 80, 1406, 1405, 64]) else (yX8_doneBy, cX8_doneBy, 7, (some FieldType.int), [1, 1, 80, 1394, 1393, 61]) else bif Nat.blt y 239 then bif Nat.blt y 238 then (yX8_done, cX8_done, 2, (some FieldType.int), [1, 1, 80, 1390, 1388, 1389]) else (yX8_women, cX8_women, 3, (some FieldType.int), [1, 1, 80, 1410, 1408, 1409]) else bif Nat.blt y 240 then (yX8_dry, cX8_dry, 3, (some FieldType.int), [1, 0, 80, 1414, 1412, 1413]) else (yX8_sprayings, cX8_sprayings, 5, (some FieldType.int), [1, 1, 80, 1418, 1416, 1417]) else bif Nat.blt y 245 then bif Nat.blt y 243 then bif Nat.blt y 242 then (yX8_was, cX8_was, 7, (some FieldType.int), [1, 4, 80, 1422, 1420, 1421]) else (yX8_age, cX8_age, 8, (some FieldType.int), [1, 2, 80, 1426, 1424, 1425]) else bif Nat.blt y 244 then (yX8_lacking, cX8_lacking, 3, (some FieldType.int), [1, 0, 80, 1438, 1436, 1437]) else (yX8_wrong, cX8_wrong, 3, (some FieldType.int), [1, 0, 80, 1442, 1440, 1441]) else bif Nat.blt y 247 then bif Nat.blt y 246 then (yX8_judge, cX8_judge, 7, (some FieldType.int), [1, 2, 80, 1446, 1444, 1445]) else (yX8_draw, cX8_draw, 2, (some FieldType.int), [1, 1, 80, 1454, 1453, 67]) else bif Nat.blt y 248 then (yX8_days, cX8_days, 4, (some FieldType.int), [1, 1, 80, 1450, 1448, 1449]) else bif Nat.blt y 249 then (yX8_seed, cX8_seed, 3, (some FieldType.int), [1, 1, 80, 1459, 1457, 1458]) else (yX8_body, cX8_body, 2, none, [1, 1, 80, 1471, 1470, 69]) else bif Nat.blt y 258 then bif Nat.blt y 254 then bif Nat.blt y 252 then bif Nat.blt y 251 then (yX8_laying, cX8_laying, 5, (some FieldType.int), [1, 2, 80, 1467, 1466, 68]) else (yX8_fading, cX8_fading, 7, (some FieldType.int), [1, 2, 80, 1475, 1474, 70]) else bif Nat.blt y 253 then (yX8_showing, cX8_showing, 5, (some FieldType.int), [1, 2, 80, 1479, 1478, 71]) else (yX8_act, cX8_act, 4, (some FieldType.int), [1, 3, 80, 1463, 1461, 1462]) else bif Nat.blt y 256 then bif Nat.blt y 255 then (yX8_trace, cX8_trace, 2, (some FieldType.int), [1, 1, 80, 1483, 1481, 1482]) else (yX8_image, cX8_image, 1, (some FieldType.int), [1, 0, 80, 1487, 1485, 1486]) else bif Nat.blt y 257 then (yX8_restore, cX8_restore, 2, (some FieldType.int), [1, 0, 80, 1491, 1489, 1490]) else (yX8_status, cX8_status, 2, (some FieldType.int), [1, 1, 80, 1495, 1493, 1494]) else bif Nat.blt y 262 then bif Nat.blt y 260 then bif Nat.blt y 259 then (yJ0_length_8abf5, cJ0_length_8abf5, 1, (some FieldType.int), [1, 0, 84, 542, 540, 541]) else (yJ0_charAt_5068e, cJ0_charAt_5068e, 2, (some FieldType.char), [1, 1, 84, 556, 554, 555]) else bif Nat.blt y 261 then (yJ0_coder_7d493, cJ0_coder_7d493, 1, (some FieldType.byte), [1, 0, 84, 546, 544, 545]) else (yJ0_isLatin1_aae02, cJ0_isLatin1_aae02, 1, (some FieldType.boolean), [1, 0, 84, 560, 558, 559]) else bif Nat.blt y 264 then bif Nat.blt y 263 then (yJ0_checkIndex_df160, cJ0_checkIndex_df160, 2, none, [0, 2, 84, 566, 565]) else (yJ1_charAt_3b067, cJ1_charAt_3b067, 2, (some FieldType.char), [0, 2, 85, 563, 562]) else bif Nat.blt y 265 then (yJ7_fill_d0a16, cJ7_fill_d0a16, 5, none, [0, 2, 75, 289, 288]) else bif Nat.blt y 266 then (yJ7_fill_53178, cJ7_fill_53178, 4, none, [0, 2, 75, 107, 106]) else (yJ3_checkIndex_8e157, cJ3_checkIndex_8e157, 3, (some FieldType.int), [0, 3, 86, 571, 570])
abbrev am_N : Nat := 267
def ar_w (p : Nat) (w : Cond) : Bool := decide (lw_tbl[p]? = some w)
def ar_C (ci : Nat) : String := match vwCl[ci]? with
  | some q => q.1
  | none => ""
def ar_N (ci : Nat) : Nat := match vwCl[ci]? with
  | some q => q.2.2
  | none => 0
def ar_T (ci : Nat) : u_T := match vwCl[ci]? with
  | some q => q.2.1
  | none => fun _ => ("", "", "", false)
/-- what kind of field: 0 an int, 1 a reference, 2 a boolean -/
def ar_ft (ci k : Nat) : Nat := match parseFieldDescriptor (ar_T ci k).2.2.1 with
  | some .int => 0
  | some .boolean => 2
  | some (.object _) => 1
  | some (.array _) => 1
  | _ => 9
def ar_stat (a : Nat) : String × String × String := match a with
  | 0 => ("PetalPictures$Kind", "ABOVE", "[I")
  | 1 => ("PetalPictures$Acts", "BODIES", "[I")
  | 2 => ("java/lang/String", "COMPACT_STRINGS", "Z")
  | _ => ("jdk/internal/util/Preconditions", "SIOOBE_FORMATTER", "Ljava/util/function/BiFunction;")
def ar_nest : List (String × Nat × MethodName) := [("PetalPictures", 30, yX5_init), ("PetalPictures", 41, yX6_init), ("PetalPictures", 48, yX0_init), ("PetalPictures", 57, yX3_init), ("PetalPictures$Board", 82, yX7_isCell)]
def ar_tab (pc : Nat) : Int → List Int → List (Int32 × Nat) → Bool
  | _, [], [] => true
  | lo, o :: os, (v, t) :: L => decide (v.toInt = lo) && decide ((pc : Int) + o = (t : Int)) && ar_tab pc (lo + 1) os L
  | _, _, _ => false
def ar_look (pc : Nat) : List (Int × Int) → List (Int32 × Nat) → Bool
  | [], [] => true
  | (a, o) :: ps, (v, t) :: L => decide (v.toInt = a) && decide ((pc : Int) + o = (t : Int)) && ar_look pc ps L
  | _, _ => false
def ar_chk (y : Nat) (pc : Nat) (i : Instr) (nx : Nat) (D : List Nat) (L : List (Int32 × Nat)) : Bool :=
  let own := (am_mt y).1.cls
  match i with
  | .iload k => decide (D = [k] ∧ nx = pc + 2)
  | .iload_n k => decide (D = [k.val] ∧ nx = pc + 1)
  | .lload k => decide (D = [k] ∧ nx = pc + 2)
  | .lload_n k => decide (D = [k.val] ∧ nx = pc + 1)
  | .aload k => decide (D = [k] ∧ nx = pc + 2)
  | .aload_n k => decide (D = [k.val] ∧ nx = pc + 1)
  | .istore k => decide (D = [k] ∧ nx = pc + 2)
  | .istore_n k => decide (D = [k.val] ∧ nx = pc + 1)
  | .astore k => decide (D = [k] ∧ nx = pc + 2)
  | .astore_n k => decide (D = [k.val] ∧ nx = pc + 1)
  | .iconst n => (match L with
    | [(v, _)] => decide (Int32.ofInt n = v ∧ nx = pc + 1)
    | _ => false)
  | .bipush n => (match L with
    | [(v, _)] => decide ((Int8.ofInt n).toInt32 = v ∧ nx = pc + 2)
    | _ => false)
  | .sipush n => (match L with
    | [(v, _)] => decide ((Int16.ofInt n).toInt32 = v ∧ nx = pc + 3)
    | _ => false)
  | .lconst n => decide (D = [n.val] ∧ nx = pc + 1)
  | .iinc k n => (match L with
    | [(v, _)] => decide (D = [k] ∧ Int32.ofInt n = v ∧ nx = pc + 3)
    | _ => false)
  | .iadd => decide (nx = pc + 1)
  | .isub => decide (nx = pc + 1)
  | .imul => decide (nx = pc + 1)
  | .iand => decide (nx = pc + 1)
  | .ior => decide (nx = pc + 1)
  | .ixor => decide (nx = pc + 1)
  | .ishl => decide (nx = pc + 1)
  | .ishr => decide (nx = pc + 1)
  | .iushr => decide (nx = pc + 1)
  | .idiv => decide (nx = pc + 1)
  | .irem => decide (nx = pc + 1)
  | .ineg => decide (nx = pc + 1)
  | .i2b => decide (nx = pc + 1)
  | .i2s => decide (nx = pc + 1)
  | .i2c => decide (nx = pc + 1)
  | .i2l => decide (nx = pc + 1)
  | .l2i => decide (nx = pc + 1)
  | .dup => decide (nx = pc + 1)
  | .dup_x1 => decide (nx = pc + 1)
  | .dup2 => decide (nx = pc + 1)
  | .pop => decide (nx = pc + 1)
  | .aconst_null => decide (nx = pc + 1)
  | .ifCond _ o => (match D with
    | [t] => decide ((pc : Int) + o = (t : Int) ∧ nx = pc + 3)
    | _ => false)
  | .if_icmp _ o => (match D with
    | [t] => decide ((pc : Int) + o = (t : Int) ∧ nx = pc + 3)
    | _ => false)
  | .ifnull o => (match D with
    | [t] => decide ((pc : Int) + o = (t : Int) ∧ nx = pc + 3)
    | _ => false)
  | .ifnonnull o => (match D with
    | [t] => decide ((pc : Int) + o = (t : Int) ∧ nx = pc + 3)
    | _ => false)
  | .goto o => (match D with
    | [t] => decide ((pc : Int) + o = (t : Int) ∧ nx = pc + 3)
    | _ => false)
  | .tableswitch d lo hi offs => (match D with
    | [t] => decide ((pc : Int) + d = (t : Int) ∧ hi = lo + (offs.size : Int) - 1) && ar_tab pc lo offs.toList L
    | _ => false)
  | .lookupswitch d ps => (match D with
    | [t] => decide ((pc : Int) + d = (t : Int)) && (ps.toList.zip (ps.toList.drop 1)).all (fun (a, next) => a.1 < next.1) && ar_look pc ps.toList L
    | _ => false)
  | .getfield x => (match D with
    | [ci, k, ty, q] => bif Nat.beq ci 90 then decide (nx = pc + 3) && (match ty with
        | 2 => ar_w q (.fieldLink own x "java/lang/String" "value" "[B")
        | 3 => ar_w q (.fieldLink own x "java/lang/String" "coder" "B")
        | _ => false)
      else decide (nx = pc + 3 ∧ ci < 7 ∧ k < ar_N ci) && (match ty with
        | 0 => decide (ar_ft ci k = 0 ∨ ar_ft ci k = 2)
        | 1 => decide (ar_ft ci k = 1)
        | _ => false) && ar_w q (.fieldLink own x (ar_T ci k).1 (ar_T ci k).2.1 (ar_T ci k).2.2.1)
    | _ => false)
  | .putfield x => (match D with
    | [ci, k, ty, q] => decide (nx = pc + 3 ∧ ci < 7 ∧ k < ar_N ci ∧ ar_ft ci k = ty) && ar_w q (.fieldLink own x (ar_T ci k).1 (ar_T ci k).2.1 (ar_T ci k).2.2.1) && (!(ar_T ci k).2.2.2 || (decide ((am_mt y).1.name = "<init>" ∧ (ar_T ci k).1 = own)))
    | _ => false)
  | .getstatic x => (match D with
    | [a, q] => decide (nx = pc + 3 ∧ a < 4) && ar_w q (.fieldLink own x (ar_stat a).1 (ar_stat a).2.1 (ar_stat a).2.2)
    | _ => false)
  | .ldc x => (match D, L with
    | [q], [(v, _)] => decide (nx = pc + 2) && ar_w q (.constant own x v)
    | [a, _], [] => decide (nx = pc + 2 ∧ own = "PetalPictures$Village" ∧ x = 53 + 2 * a ∧ a < 7)
    | _, _ => false)
  | .iaload => decide (nx = pc + 1)
  | .baload => decide (nx = pc + 1)
  | .laload => decide (nx = pc + 1)
  | .aaload => decide (nx = pc + 1)
  | .iastore => decide (nx = pc + 1)
  | .lastore => decide (nx = pc + 1)
  | .aastore => decide (nx = pc + 1)
  | .arraylength => decide (nx = pc + 1)
  | .new x => (match D with
    | [ci, n, q] => decide (nx = pc + 3 ∧ ci < 7 ∧ n = ar_N ci) && ar_w q (.classLink own x (ar_C ci))
    | _ => false)
  | .newarray t => (match D with
    | [kd, _] => decide (nx = pc + 2) && (match t with
      | .int => decide (kd = 50)
      | .long => decide (kd = 51)
      | _ => false)
    | _ => false)
  | .anewarray x => (match D with
    | [kd, q] => decide (nx = pc + 3 ∧ kd = 52) && ar_w q (.classLink own x "PetalPictures$Shelf")
    | _ => false)
  | .invokevirtual x => (match D with
    | [z, kd, n, mx, ci, ne, q] => decide (nx = pc + 3 ∧ z < am_N ∧ (kd = 1 ∧ ci < 7 ∧ (am_mt z).1.cls = ar_C ci ∨ kd = 7 ∧ (am_mt z).1.cls = "java/lang/String") ∧ (am_mt z).2.2.2.2.getD 0 9 = 1 ∧ n = (am_mt z).2.2.2.2.getD 1 0 + 1 ∧ mx = (am_mt z).2.2.1 ∧ ne = 0) && ar_w q (.methodLink own x (am_mt z).1)
    | _ => false)
  | .invokespecial x => (match D with
    | [z, kd, n, mx, ci, ne, q] => bif Nat.beq kd 3 then decide (nx = pc + 3 ∧ n = 1) && ar_w q (.methodLink own x objectInit)
      else decide (nx = pc + 3 ∧ z < am_N ∧ kd = 2 ∧ (am_mt z).2.2.2.2.getD 0 9 = 2 ∧ n = (am_mt z).2.2.2.2.getD 1 0 + 1 ∧ mx = (am_mt z).2.2.1 ∧ ci < 7 ∧ (am_mt z).1.cls = ar_C ci) && (match ne with
        | 0 => ar_w q (.methodLink own x (am_mt z).1)
        | _ => decide ((own, x, (am_mt z).1) ∈ ar_nest))
    | _ => false)
  | .invokestatic x => (match D with
    | [] => true
    | [z, kd, n, mx, _, ne, q] => bif Nat.beq kd 6 then decide (nx = pc + 3) && ar_w q (.methodLink own x arraycopyName)
      else bif Nat.beq kd 8 then decide (nx = pc + 3 ∧ n = 2) && ar_w q (.methodLink own x Lib.Math.max.name)
      else bif Nat.beq kd 9 then decide (nx = pc + 3 ∧ n = 2) && ar_w q (.methodLink own x Lib.Math.min.name)
      else decide (nx = pc + 3 ∧ z < am_N ∧ kd = 0 ∧ (am_mt z).2.2.2.2.getD 0 9 = 0 ∧ n = (am_mt z).2.2.2.2.getD 1 0 ∧ mx = (am_mt z).2.2.1) && (match ne with
        | 0 => ar_w q (.methodLink own x (am_mt z).1)
        | _ => decide ((own, x, (am_mt z).1) ∈ ar_nest))
    | _ => false)
  | .ireturn => decide (nx = pc + 1) && (match D with
    | [0] => decide ((am_mt y).2.2.2.1 = some .int)
    | [1] => decide ((am_mt y).2.2.2.1 = some .boolean)
    | [2] => decide ((am_mt y).2.2.2.1 = some .char)
    | [3] => decide ((am_mt y).2.2.2.1 = some .byte)
    | _ => false)
  | .lreturn => decide (nx = pc + 1 ∧ (am_mt y).2.2.2.1 = some .long)
  | .areturn => decide (nx = pc + 1) && (match (am_mt y).2.2.2.1 with
    | some (.object _) => true
    | _ => false)
  | .return_ => decide (nx = pc + 1 ∧ (am_mt y).2.2.2.1 = none)
  | _ => true
def ar_ent (y : Nat) : am_I → Bool
  | (pc, i, nx, _, D, L) => (match decode (am_mt y).2.1 pc with
    | .ok (j, n) => decide (j = i ∧ pc + n = nx)
    | _ => false) && ar_chk y pc i nx D L
def ar_meth (y : Nat) : Bool := match am_mt y with
  | (nm, b, mx, rt, D) => plainName nm.cls && decide (nm.cls ≠ "java/lang/invoke/MethodHandle" ∧ nm.cls ≠ "java/lang/invoke/VarHandle" ∧ (parseMethodDescriptor nm.desc).map (fun d => d.parameters.length) = some (D.getD 1 0)) && ar_w (D.getD 3 0) (.code nm b mx rt) && ar_w (D.getD 2 0) (.initialized nm.cls) && (match D.getD 0 9 with
    | 0 => ar_w (D.getD 4 0) (.static nm)
    | 1 => ar_w (D.getD 4 0) (.instanceMethod nm) && ar_w (D.getD 5 0) (.selects nm.cls nm nm)
    | 2 => ar_w (D.getD 4 0) (.instanceMethod nm) && decide (nm.name = "<init>" ∧ rt = none)
    | _ => false)
def ar_all (y : Nat) : Bool := ar_meth y && (am_code y).all (ar_ent y)
theorem ar_pieces {α : Type} {p : α → Bool} (n : Nat) (w : Nat) (l : List α) (hn : l.length ≤ n * w) (h : ∀ j, j < n → ((l.drop (j * w)).take w).all p = true) : l.all p = true := by
  rw [List.all_eq_true]
  intro x hx
  obtain ⟨i, hi, rfl⟩ := List.mem_iff_getElem.mp hx
  rcases Nat.eq_zero_or_pos w with hw | hw
  · subst hw; omega
  have hj : i / w < n := by
    rw [Nat.div_lt_iff_lt_mul hw]; omega
  have h1 := List.all_eq_true.mp (h (i / w) hj)
  refine h1 _ (List.mem_iff_getElem?.mpr ⟨i % w, ?_⟩)
  rw [List.getElem?_take_of_lt (Nat.mod_lt _ hw), List.getElem?_drop, show i / w * w + i % w = i by rw [Nat.mul_comm]; exact Nat.div_add_mod i w]
  exact List.getElem?_eq_getElem hi

