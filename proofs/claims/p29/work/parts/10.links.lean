theorem lkF_X6_13 : Cond.fieldLink RX6 13 (TX6 0).1 (TX6 0).2.1 (TX6 0).2.2.1 ∈ tbG := tg_i 198 (by decide +kernel) (by decide +kernel)
theorem lkF_X6_17 : Cond.fieldLink RX6 17 (TX6 1).1 (TX6 1).2.1 (TX6 1).2.2.1 ∈ tbG := tg_i 199 (by decide +kernel) (by decide +kernel)
theorem lkF_X6_20 : Cond.fieldLink RX6 20 (TX6 2).1 (TX6 2).2.1 (TX6 2).2.2.1 ∈ tbG := tg_i 200 (by decide +kernel) (by decide +kernel)
theorem lkF_X6_24 : Cond.fieldLink RX6 24 (TX6 3).1 (TX6 3).2.1 (TX6 3).2.2.1 ∈ tbG := tg_i 201 (by decide +kernel) (by decide +kernel)
theorem lkF_X6_33 : Cond.fieldLink RX6 33 (TX6 4).1 (TX6 4).2.1 (TX6 4).2.2.1 ∈ tbG := tg_i 202 (by decide +kernel) (by decide +kernel)
theorem lkF_X6_37 : Cond.fieldLink RX6 37 (TX6 5).1 (TX6 5).2.1 (TX6 5).2.2.1 ∈ tbG := tg_i 203 (by decide +kernel) (by decide +kernel)
theorem lkF_X6_43 : Cond.fieldLink RX6 43 (TX6 6).1 (TX6 6).2.1 (TX6 6).2.2.1 ∈ tbG := tg_i 204 (by decide +kernel) (by decide +kernel)
theorem lkF_X6_50 : Cond.fieldLink RX6 50 (TX6 7).1 (TX6 7).2.1 (TX6 7).2.2.1 ∈ tbG := tg_i 205 (by decide +kernel) (by decide +kernel)
theorem lkF_X6_57 : Cond.fieldLink RX6 57 (TX6 8).1 (TX6 8).2.1 (TX6 8).2.2.1 ∈ tbG := tg_i 206 (by decide +kernel) (by decide +kernel)
theorem lkF_X6_64 : Cond.fieldLink RX6 64 (TX6 9).1 (TX6 9).2.1 (TX6 9).2.2.1 ∈ tbG := tg_i 207 (by decide +kernel) (by decide +kernel)
theorem lkF_X6_68 : Cond.fieldLink RX6 68 (TX6 10).1 (TX6 10).2.1 (TX6 10).2.2.1 ∈ tbG := tg_i 208 (by decide +kernel) (by decide +kernel)
theorem lkF_X6_74 : Cond.fieldLink RX6 74 (TX6 11).1 (TX6 11).2.1 (TX6 11).2.2.1 ∈ tbG := tg_i 209 (by decide +kernel) (by decide +kernel)
theorem lkF_X6_85 : Cond.fieldLink RX6 85 (TX0 0).1 (TX0 0).2.1 (TX0 0).2.2.1 ∈ tbG := tg_i 58 (by decide +kernel) (by decide +kernel)
theorem lkF_X6_190 : Cond.fieldLink RX6 190 (TX0 1).1 (TX0 1).2.1 (TX0 1).2.2.1 ∈ tbG := tg_i 64 (by decide +kernel) (by decide +kernel)
theorem lkF_X6_201 : Cond.fieldLink RX6 201 (TX1 0).1 (TX1 0).2.1 (TX1 0).2.2.1 ∈ tbG := tg_i 114 (by decide +kernel) (by decide +kernel)
theorem lkF_X6_209 : Cond.fieldLink RX6 209 (TX1 1).1 (TX1 1).2.1 (TX1 1).2.2.1 ∈ tbG := tg_i 116 (by decide +kernel) (by decide +kernel)
theorem lkF_X6_215 : Cond.fieldLink RX6 215 (TX3 0).1 (TX3 0).2.1 (TX3 0).2.2.1 ∈ tbG := tg_i 157 (by decide +kernel) (by decide +kernel)
theorem lkF_X6_233 : Cond.fieldLink RX6 233 (TX2 1).1 (TX2 1).2.1 (TX2 1).2.2.1 ∈ tbG := tg_i 171 (by decide +kernel) (by decide +kernel)
theorem lkF_X0_9 : Cond.fieldLink RX0 9 (TX0 0).1 (TX0 0).2.1 (TX0 0).2.2.1 ∈ tbG := tg_i 55 (by decide +kernel) (by decide +kernel)
theorem lkF_X0_15 : Cond.fieldLink RX0 15 (TX0 1).1 (TX0 1).2.1 (TX0 1).2.2.1 ∈ tbG := tg_i 60 (by decide +kernel) (by decide +kernel)
theorem lkF_X0_19 : Cond.fieldLink RX0 19 (TX0 2).1 (TX0 2).2.1 (TX0 2).2.2.1 ∈ tbG := tg_i 65 (by decide +kernel) (by decide +kernel)
theorem lkF_X0_24 : Cond.fieldLink RX0 24 (TX0 3).1 (TX0 3).2.1 (TX0 3).2.2.1 ∈ tbG := tg_i 67 (by decide +kernel) (by decide +kernel)
theorem lkF_X1_9 : Cond.fieldLink RX1 9 (TX1 1).1 (TX1 1).2.1 (TX1 1).2.2.1 ∈ tbG := tg_i 115 (by decide +kernel) (by decide +kernel)
theorem lkF_X1_15 : Cond.fieldLink RX1 15 (TX1 2).1 (TX1 2).2.1 (TX1 2).2.2.1 ∈ tbG := tg_i 117 (by decide +kernel) (by decide +kernel)
theorem lkF_X1_20 : Cond.fieldLink RX1 20 (TX1 3).1 (TX1 3).2.1 (TX1 3).2.2.1 ∈ tbG := tg_i 118 (by decide +kernel) (by decide +kernel)
theorem lkF_X1_23 : Cond.fieldLink RX1 23 (TX1 4).1 (TX1 4).2.1 (TX1 4).2.2.1 ∈ tbG := tg_i 119 (by decide +kernel) (by decide +kernel)
theorem lkF_X1_26 : Cond.fieldLink RX1 26 (TX1 5).1 (TX1 5).2.1 (TX1 5).2.2.1 ∈ tbG := tg_i 120 (by decide +kernel) (by decide +kernel)
theorem lkF_X1_29 : Cond.fieldLink RX1 29 (TX1 6).1 (TX1 6).2.1 (TX1 6).2.2.1 ∈ tbG := tg_i 121 (by decide +kernel) (by decide +kernel)
theorem lkF_X1_32 : Cond.fieldLink RX1 32 (TX1 7).1 (TX1 7).2.1 (TX1 7).2.2.1 ∈ tbG := tg_i 122 (by decide +kernel) (by decide +kernel)
theorem lkF_X1_35 : Cond.fieldLink RX1 35 (TX1 8).1 (TX1 8).2.1 (TX1 8).2.2.1 ∈ tbG := tg_i 123 (by decide +kernel) (by decide +kernel)
theorem lkF_X1_38 : Cond.fieldLink RX1 38 (TX1 9).1 (TX1 9).2.1 (TX1 9).2.2.1 ∈ tbG := tg_i 124 (by decide +kernel) (by decide +kernel)
theorem lkF_X1_41 : Cond.fieldLink RX1 41 (TX1 10).1 (TX1 10).2.1 (TX1 10).2.2.1 ∈ tbG := tg_i 125 (by decide +kernel) (by decide +kernel)
theorem lkF_X1_44 : Cond.fieldLink RX1 44 (TX0 0).1 (TX0 0).2.1 (TX0 0).2.2.1 ∈ tbG := tg_i 56 (by decide +kernel) (by decide +kernel)
theorem lkF_X1_50 : Cond.fieldLink RX1 50 (TX1 0).1 (TX1 0).2.1 (TX1 0).2.2.1 ∈ tbG := tg_i 113 (by decide +kernel) (by decide +kernel)
theorem lkF_X1_53 : Cond.fieldLink RX1 53 (TX0 1).1 (TX0 1).2.1 (TX0 1).2.2.1 ∈ tbG := tg_i 63 (by decide +kernel) (by decide +kernel)
theorem lkF_X1_100 : Cond.fieldLink RX1 100 (TX0 2).1 (TX0 2).2.1 (TX0 2).2.2.1 ∈ tbG := tg_i 66 (by decide +kernel) (by decide +kernel)
theorem lkF_X1_103 : Cond.fieldLink RX1 103 (TX0 3).1 (TX0 3).2.1 (TX0 3).2.2.1 ∈ tbG := tg_i 68 (by decide +kernel) (by decide +kernel)
theorem lkF_X3_11 : Cond.fieldLink RX3 11 (TX3 0).1 (TX3 0).2.1 (TX3 0).2.2.1 ∈ tbG := tg_i 156 (by decide +kernel) (by decide +kernel)
theorem lkF_X4_9 : Cond.fieldLink RX4 9 (TX4 0).1 (TX4 0).2.1 (TX4 0).2.2.1 ∈ tbG := tg_i 99 (by decide +kernel) (by decide +kernel)
theorem lkF_X4_17 : Cond.fieldLink RX4 17 (TX4 1).1 (TX4 1).2.1 (TX4 1).2.2.1 ∈ tbG := tg_i 100 (by decide +kernel) (by decide +kernel)
theorem lkF_X4_26 : Cond.fieldLink RX4 26 (TX0 1).1 (TX0 1).2.1 (TX0 1).2.2.1 ∈ tbG := tg_i 62 (by decide +kernel) (by decide +kernel)
theorem lkF_X4_31 : Cond.fieldLink RX4 31 (TX0 0).1 (TX0 0).2.1 (TX0 0).2.2.1 ∈ tbG := tg_i 59 (by decide +kernel) (by decide +kernel)
theorem lkF_X5_9 : Cond.fieldLink RX5 9 (TX5 0).1 (TX5 0).2.1 (TX5 0).2.2.1 ∈ tbG := tg_i 85 (by decide +kernel) (by decide +kernel)
theorem lkF_X5_15 : Cond.fieldLink RX5 15 (TX5 1).1 (TX5 1).2.1 (TX5 1).2.2.1 ∈ tbG := tg_i 86 (by decide +kernel) (by decide +kernel)
theorem lkF_X5_18 : Cond.fieldLink RX5 18 (TX0 1).1 (TX0 1).2.1 (TX0 1).2.2.1 ∈ tbG := tg_i 61 (by decide +kernel) (by decide +kernel)
theorem lkF_X5_23 : Cond.fieldLink RX5 23 (TX0 0).1 (TX0 0).2.1 (TX0 0).2.2.1 ∈ tbG := tg_i 57 (by decide +kernel) (by decide +kernel)
theorem lkJ_X6_253 : Cond.constantLong RX6 253 93589 ∈ tbG := tg_i 378 (by decide +kernel) (by decide +kernel)
theorem lkJ_X6_259 : Cond.constantLong RX6 259 31 ∈ tbG := tg_i 384 (by decide +kernel) (by decide +kernel)
theorem lkJ_X0_47 : Cond.constantLong RX0 47 1103515245 ∈ tbG := tg_i 470 (by decide +kernel) (by decide +kernel)
theorem lkJ_X0_49 : Cond.constantLong RX0 49 12345 ∈ tbG := tg_i 471 (by decide +kernel) (by decide +kernel)
theorem lkJ_X0_51 : Cond.constantLong RX0 51 2147483648 ∈ tbG := tg_i 472 (by decide +kernel) (by decide +kernel)
theorem lkJ_X0_53 : Cond.constantLong RX0 53 65536 ∈ tbG := tg_i 476 (by decide +kernel) (by decide +kernel)
theorem lkJ_X0_55 : Cond.constantLong RX0 55 4 ∈ tbG := tg_i 477 (by decide +kernel) (by decide +kernel)
theorem lkJ_X0_100 : Cond.constantLong RX0 100 31 ∈ tbG := tg_i 383 (by decide +kernel) (by decide +kernel)
theorem lkK_X6_110 : Cond.constant RX6 110 999999 ∈ tbG := tg_i 462 (by decide +kernel) (by decide +kernel)
theorem lkK_X6_118 : Cond.constant RX6 118 1000000 ∈ tbG := tg_i 557 (by decide +kernel) (by decide +kernel)
theorem lkM_X6_78 : Cond.methodLink RX6 78 yX6_checkSlot ∈ tbG := tg_i 239 (by decide +kernel) (by decide +kernel)
theorem lkM_X6_81 : Cond.methodLink RX6 81 yX6_checkRange ∈ tbG := tg_i 310 (by decide +kernel) (by decide +kernel)
theorem lkM_X6_88 : Cond.methodLink RX6 88 yX6_save ∈ tbG := tg_i 329 (by decide +kernel) (by decide +kernel)
theorem lkM_X6_91 : Cond.methodLink RX6 91 yX0_clear ∈ tbG := tg_i 344 (by decide +kernel) (by decide +kernel)
theorem lkM_X6_111 : Cond.methodLink RX6 111 yX0_draw ∈ tbG := tg_i 463 (by decide +kernel) (by decide +kernel)
theorem lkM_X6_114 : Cond.methodLink RX6 114 yX0_emptyWeight ∈ tbG := tg_i 478 (by decide +kernel) (by decide +kernel)
theorem lkM_X6_119 : Cond.methodLink RX6 119 yX5_start ∈ tbG := tg_i 533 (by decide +kernel) (by decide +kernel)
theorem lkM_X6_123 : Cond.methodLink RX6 123 yX5_takeWord ∈ tbG := tg_i 558 (by decide +kernel) (by decide +kernel)
theorem lkM_X6_127 : Cond.methodLink RX6 127 yX5_value ∈ tbG := tg_i 548 (by decide +kernel) (by decide +kernel)
theorem lkM_X6_131 : Cond.methodLink RX6 131 yX5_takeBoth ∈ tbG := tg_i 538 (by decide +kernel) (by decide +kernel)
theorem lkM_X6_134 : Cond.methodLink RX6 134 yX4_start ∈ tbG := tg_i 576 (by decide +kernel) (by decide +kernel)
theorem lkM_X6_135 : Cond.methodLink RX6 135 yX4_weigh ∈ tbG := tg_i 590 (by decide +kernel) (by decide +kernel)
theorem lkM_X6_139 : Cond.methodLink RX6 139 yX1_explore ∈ tbG := tg_i 567 (by decide +kernel) (by decide +kernel)
theorem lkM_X6_142 : Cond.methodLink RX6 142 yX1_firstWeighted ∈ tbG := tg_i 568 (by decide +kernel) (by decide +kernel)
theorem lkM_X6_152 : Cond.methodLink RX6 152 yX0_becomeSum ∈ tbG := tg_i 491 (by decide +kernel) (by decide +kernel)
theorem lkM_X6_156 : Cond.methodLink RX6 156 yX0_becomeHadamard ∈ tbG := tg_i 500 (by decide +kernel) (by decide +kernel)
theorem lkM_X6_159 : Cond.methodLink RX6 159 yX0_becomeCauchy ∈ tbG := tg_i 508 (by decide +kernel) (by decide +kernel)
theorem lkM_X6_162 : Cond.methodLink RX6 162 yX6_store ∈ tbG := tg_i 521 (by decide +kernel) (by decide +kernel)
theorem lkM_X6_166 : Cond.methodLink RX6 166 yX0_hasStar ∈ tbG := tg_i 633 (by decide +kernel) (by decide +kernel)
theorem lkM_X6_172 : Cond.methodLink RX6 172 yX0_copyFrom ∈ tbG := tg_i 337 (by decide +kernel) (by decide +kernel)
theorem lkM_X6_175 : Cond.methodLink RX6 175 yX0_reverse ∈ tbG := tg_i 389 (by decide +kernel) (by decide +kernel)
theorem lkM_X6_178 : Cond.methodLink RX6 178 yX0_becomeStar ∈ tbG := tg_i 638 (by decide +kernel) (by decide +kernel)
theorem lkM_X6_181 : Cond.methodLink RX6 181 yX0_startAfter ∈ tbG := tg_i 646 (by decide +kernel) (by decide +kernel)
theorem lkM_X6_184 : Cond.methodLink RX6 184 yX1_reduce ∈ tbG := tg_i 442 (by decide +kernel) (by decide +kernel)
theorem lkM_X6_187 : Cond.methodLink RX6 187 yX1_minimize ∈ tbG := tg_i 397 (by decide +kernel) (by decide +kernel)
theorem lkM_X6_193 : Cond.methodLink RX6 193 yX6_multiply ∈ tbG := tg_i 680 (by decide +kernel) (by decide +kernel)
theorem lkM_X6_197 : Cond.methodLink RX6 197 yX6_spaceSize ∈ tbG := tg_i 385 (by decide +kernel) (by decide +kernel)
theorem lkM_X6_212 : Cond.methodLink RX6 212 yX0_becomeDifference ∈ tbG := tg_i 625 (by decide +kernel) (by decide +kernel)
theorem lkM_X6_218 : Cond.methodLink RX6 218 yX6_joinedWord ∈ tbG := tg_i 584 (by decide +kernel) (by decide +kernel)
theorem lkM_X6_221 : Cond.methodLink RX6 221 yX3_rank ∈ tbG := tg_i 600 (by decide +kernel) (by decide +kernel)
theorem lkM_X6_224 : Cond.methodLink RX6 224 yX6_collectTotals ∈ tbG := tg_i 657 (by decide +kernel) (by decide +kernel)
theorem lkM_X6_227 : Cond.methodLink RX6 227 yX6_fillRecurrences ∈ tbG := tg_i 661 (by decide +kernel) (by decide +kernel)
theorem lkM_X6_230 : Cond.methodLink RX6 230 yX6_reciprocal ∈ tbG := tg_i 686 (by decide +kernel) (by decide +kernel)
theorem lkM_X6_255 : Cond.methodLink RX6 255 yX0_hash ∈ tbG := tg_i 379 (by decide +kernel) (by decide +kernel)
theorem lkM_X6_272 : Cond.methodLink RX6 272 yX6_dropOldest ∈ tbG := tg_i 333 (by decide +kernel) (by decide +kernel)
theorem lkM_X6_275 : Cond.methodLink RX6 275 yX6_lengthOf ∈ tbG := tg_i 587 (by decide +kernel) (by decide +kernel)
theorem lkM_X0_27 : Cond.methodLink RX0 27 yJ7_fill_fda19 ∈ tbG := tg_i 348 (by decide +kernel) (by decide +kernel)
theorem lkM_X0_33 : Cond.methodLink RX0 33 arraycopyName ∈ tbG := tg_i 341 (by decide +kernel) (by decide +kernel)
theorem lkM_X0_39 : Cond.methodLink RX0 39 yX0_nextDraw ∈ tbG := tg_i 467 (by decide +kernel) (by decide +kernel)
theorem lkM_X0_43 : Cond.methodLink RX0 43 yX0_drawn ∈ tbG := tg_i 473 (by decide +kernel) (by decide +kernel)
theorem lkM_X0_57 : Cond.methodLink RX0 57 yX0_clear ∈ tbG := tg_i 495 (by decide +kernel) (by decide +kernel)
theorem lkM_X0_61 : Cond.methodLink RX0 61 yX0_placeBlock ∈ tbG := tg_i 496 (by decide +kernel) (by decide +kernel)
theorem lkM_X0_65 : Cond.methodLink RX0 65 yX0_becomeSum ∈ tbG := tg_i 512 (by decide +kernel) (by decide +kernel)
theorem lkM_X0_69 : Cond.methodLink RX0 69 yX0_placeProducts ∈ tbG := tg_i 504 (by decide +kernel) (by decide +kernel)
theorem lkM_X0_73 : Cond.methodLink RX0 73 yX0_emptyWeight ∈ tbG := tg_i 513 (by decide +kernel) (by decide +kernel)
theorem lkM_X0_81 : Cond.methodLink RX0 81 yX0_stepThenLast ∈ tbG := tg_i 517 (by decide +kernel) (by decide +kernel)
theorem lkM_X0_85 : Cond.methodLink RX0 85 yX0_initialThenStep ∈ tbG := tg_i 642 (by decide +kernel) (by decide +kernel)
theorem lkM_X0_88 : Cond.methodLink RX0 88 yX0_transpose ∈ tbG := tg_i 393 (by decide +kernel) (by decide +kernel)
theorem lkM_X0_92 : Cond.methodLink RX0 92 yX0_addStep ∈ tbG := tg_i 432 (by decide +kernel) (by decide +kernel)
theorem lkM_X0_96 : Cond.methodLink RX0 96 yX0_weightFrom ∈ tbG := tg_i 482 (by decide +kernel) (by decide +kernel)
theorem lkM_X1_56 : Cond.methodLink RX1 56 arraycopyName ∈ tbG := tg_i 405 (by decide +kernel) (by decide +kernel)
theorem lkM_X1_62 : Cond.methodLink RX1 62 yX1_place ∈ tbG := tg_i 406 (by decide +kernel) (by decide +kernel)
theorem lkM_X1_66 : Cond.methodLink RX1 66 yX0_takeStep ∈ tbG := tg_i 428 (by decide +kernel) (by decide +kernel)
theorem lkM_X1_70 : Cond.methodLink RX1 70 yJ7_fill_fda19 ∈ tbG := tg_i 410 (by decide +kernel) (by decide +kernel)
theorem lkM_X1_84 : Cond.methodLink RX1 84 yX0_weightFrom ∈ tbG := tg_i 417 (by decide +kernel) (by decide +kernel)
theorem lkM_X1_92 : Cond.methodLink RX1 92 yX1_extend ∈ tbG := tg_i 424 (by decide +kernel) (by decide +kernel)
theorem lkM_X1_96 : Cond.methodLink RX1 96 yX0_clear ∈ tbG := tg_i 440 (by decide +kernel) (by decide +kernel)
theorem lkM_X1_106 : Cond.methodLink RX1 106 yX1_explore ∈ tbG := tg_i 401 (by decide +kernel) (by decide +kernel)
theorem lkM_X1_110 : Cond.methodLink RX1 110 yX1_build ∈ tbG := tg_i 436 (by decide +kernel) (by decide +kernel)
theorem lkM_X1_113 : Cond.methodLink RX1 113 yX0_reverse ∈ tbG := tg_i 441 (by decide +kernel) (by decide +kernel)
theorem lkM_X3_16 : Cond.methodLink RX3 16 yX3_raisePivot ∈ tbG := tg_i 604 (by decide +kernel) (by decide +kernel)
theorem lkM_X3_20 : Cond.methodLink RX3 20 yX3_clearBelow ∈ tbG := tg_i 608 (by decide +kernel) (by decide +kernel)
theorem lkM_X4_20 : Cond.methodLink RX4 20 yJ7_fill_53178 ∈ tbG := tg_i 580 (by decide +kernel) (by decide +kernel)
theorem lkM_X4_35 : Cond.methodLink RX4 35 arraycopyName ∈ tbG := tg_i 583 (by decide +kernel) (by decide +kernel)
theorem lkM_X4_45 : Cond.methodLink RX4 45 Lib.Math.min.name ∈ tbG := tg_i 595 (by decide +kernel) (by decide +kernel)
theorem lkM_X4_51 : Cond.methodLink RX4 51 yX0_takeStep ∈ tbG := tg_i 598 (by decide +kernel) (by decide +kernel)
theorem lkM_X4_55 : Cond.methodLink RX4 55 yX0_weightFrom ∈ tbG := tg_i 599 (by decide +kernel) (by decide +kernel)
theorem lkM_X5_27 : Cond.methodLink RX5 27 arraycopyName ∈ tbG := tg_i 537 (by decide +kernel) (by decide +kernel)
theorem lkM_X5_33 : Cond.methodLink RX5 33 yX0_takeStep ∈ tbG := tg_i 562 (by decide +kernel) (by decide +kernel)
theorem lkM_X5_37 : Cond.methodLink RX5 37 yX5_swap ∈ tbG := tg_i 544 (by decide +kernel) (by decide +kernel)
theorem lkM_X5_40 : Cond.methodLink RX5 40 yJ7_fill_fda19 ∈ tbG := tg_i 542 (by decide +kernel) (by decide +kernel)
theorem lkM_X5_46 : Cond.methodLink RX5 46 yX0_addStep ∈ tbG := tg_i 543 (by decide +kernel) (by decide +kernel)
theorem lkM_X5_49 : Cond.methodLink RX5 49 yX0_weightFrom ∈ tbG := tg_i 552 (by decide +kernel) (by decide +kernel)
theorem lkM_J7_13 : Cond.methodLink RJ7 13 yJ7_rangeCheck_23922 ∈ tbG := tg_i 351 (by decide +kernel) (by decide +kernel)
theorem lkN_X0_77 : Cond.methodLinkNest RX0 77 yX6_multiply "SeriesBench" ∈ zNwL := nw_i 514 (by decide +kernel) (by decide +kernel)
theorem lkN_X1_76 : Cond.methodLinkNest RX1 76 yX6_addMultiple "SeriesBench" ∈ zNwL := nw_i 411 (by decide +kernel) (by decide +kernel)
theorem lkN_X1_80 : Cond.methodLinkNest RX1 80 yX6_firstNonZero "SeriesBench" ∈ zNwL := nw_i 414 (by decide +kernel) (by decide +kernel)
theorem lkN_X1_88 : Cond.methodLinkNest RX1 88 yX6_reciprocal "SeriesBench" ∈ zNwL := nw_i 421 (by decide +kernel) (by decide +kernel)
theorem lkN_X3_24 : Cond.methodLinkNest RX3 24 yX6_reciprocal "SeriesBench" ∈ zNwL := nw_i 612 (by decide +kernel) (by decide +kernel)
theorem lkN_X3_28 : Cond.methodLinkNest RX3 28 yX6_addMultiple "SeriesBench" ∈ zNwL := nw_i 613 (by decide +kernel) (by decide +kernel)
theorem lkN_X4_41 : Cond.methodLinkNest RX4 41 yX6_lengthOf "SeriesBench" ∈ zNwL := nw_i 594 (by decide +kernel) (by decide +kernel)
theorem clX0 : zCl 0 4 RX0 TX0 tyX0 := ⟨by decide +kernel, rfl, tyX0_ok, nmX0⟩
theorem clX1 : zCl 1 11 RX1 TX1 tyX1 := ⟨by decide +kernel, rfl, tyX1_ok, nmX1⟩
theorem clX2 : zCl 2 9 RX2 TX2 tyX2 := ⟨by decide +kernel, rfl, tyX2_ok, nmX2⟩
theorem clX3 : zCl 3 1 RX3 TX3 tyX3 := ⟨by decide +kernel, rfl, tyX3_ok, nmX3⟩
theorem clX4 : zCl 4 2 RX4 TX4 tyX4 := ⟨by decide +kernel, rfl, tyX4_ok, nmX4⟩
theorem clX5 : zCl 5 2 RX5 TX5 tyX5 := ⟨by decide +kernel, rfl, tyX5_ok, nmX5⟩
theorem clX6 : zCl 6 12 RX6 TX6 tyX6 := ⟨by decide +kernel, rfl, tyX6_ok, nmX6⟩
theorem wd_J7_rangeCheck_23922 : zWs yJ7_rangeCheck_23922 cJ7_rangeCheck_23922 3 (Option.none : Option Jvm.ClassFile.FieldType) 3 := ⟨⟨tg_i 352 (by decide +kernel) (by decide +kernel), tg_i 33 (by decide +kernel) (by decide +kernel), tg_i 353 (by decide +kernel) (by decide +kernel)⟩, by decide +kernel⟩
def rm_J7_rangeCheck_23922 : Room := { frames := 1, cells := 0, slots := 0, locals := 100 }
theorem wd_J7_fill_fda19 : zWs yJ7_fill_fda19 cJ7_fill_fda19 5 (Option.none : Option Jvm.ClassFile.FieldType) 4 := ⟨⟨tg_i 349 (by decide +kernel) (by decide +kernel), tg_i 33 (by decide +kernel) (by decide +kernel), tg_i 350 (by decide +kernel) (by decide +kernel)⟩, by decide +kernel⟩
def rm_J7_fill_fda19 : Room := { frames := 2, cells := 0, slots := 0, locals := 122 }
theorem wd_X0_clear : zWv yX0_clear cX0_clear 3 (Option.none : Option Jvm.ClassFile.FieldType) 1 := ⟨⟨tg_i 345 (by decide +kernel) (by decide +kernel), tg_i 346 (by decide +kernel) (by decide +kernel), tg_i 20 (by decide +kernel) (by decide +kernel), tg_i 347 (by decide +kernel) (by decide +kernel)⟩, by decide +kernel⟩
def rm_X0_clear : Room := { frames := 3, cells := 0, slots := 0, locals := 146 }
theorem wd_X0_copyFrom : zWv yX0_copyFrom cX0_copyFrom 3 (Option.none : Option Jvm.ClassFile.FieldType) 1 := ⟨⟨tg_i 338 (by decide +kernel) (by decide +kernel), tg_i 339 (by decide +kernel) (by decide +kernel), tg_i 20 (by decide +kernel) (by decide +kernel), tg_i 340 (by decide +kernel) (by decide +kernel)⟩, by decide +kernel⟩
def rm_X0_copyFrom : Room := { frames := 1, cells := 0, slots := 0, locals := 100 }
theorem wd_X0_nextDraw : zWs yX0_nextDraw cX0_nextDraw 2 (Option.some FieldType.long) 1 := ⟨⟨tg_i 468 (by decide +kernel) (by decide +kernel), tg_i 20 (by decide +kernel) (by decide +kernel), tg_i 469 (by decide +kernel) (by decide +kernel)⟩, by decide +kernel⟩
def rm_X0_nextDraw : Room := { frames := 1, cells := 0, slots := 0, locals := 100 }
theorem wd_X0_drawn : zWs yX0_drawn cX0_drawn 2 (Option.some FieldType.int) 1 := ⟨⟨tg_i 474 (by decide +kernel) (by decide +kernel), tg_i 20 (by decide +kernel) (by decide +kernel), tg_i 475 (by decide +kernel) (by decide +kernel)⟩, by decide +kernel⟩
def rm_X0_drawn : Room := { frames := 1, cells := 0, slots := 0, locals := 100 }
theorem wd_X0_draw : zWv yX0_draw cX0_draw 7 (Option.none : Option Jvm.ClassFile.FieldType) 2 := ⟨⟨tg_i 464 (by decide +kernel) (by decide +kernel), tg_i 465 (by decide +kernel) (by decide +kernel), tg_i 20 (by decide +kernel) (by decide +kernel), tg_i 466 (by decide +kernel) (by decide +kernel)⟩, by decide +kernel⟩
def rm_X0_draw : Room := { frames := 2, cells := 0, slots := 0, locals := 121 }
theorem wd_X0_placeBlock : zWv yX0_placeBlock cX0_placeBlock 6 (Option.none : Option Jvm.ClassFile.FieldType) 2 := ⟨⟨tg_i 498 (by decide +kernel) (by decide +kernel), tg_i 8 (by decide +kernel) (by decide +kernel), tg_i 20 (by decide +kernel) (by decide +kernel), tg_i 499 (by decide +kernel) (by decide +kernel)⟩, by decide +kernel⟩
def rm_X0_placeBlock : Room := { frames := 1, cells := 0, slots := 0, locals := 100 }
theorem wd_X0_becomeSum : zWv yX0_becomeSum cX0_becomeSum 3 (Option.none : Option Jvm.ClassFile.FieldType) 2 := ⟨⟨tg_i 492 (by decide +kernel) (by decide +kernel), tg_i 493 (by decide +kernel) (by decide +kernel), tg_i 20 (by decide +kernel) (by decide +kernel), tg_i 494 (by decide +kernel) (by decide +kernel)⟩, by decide +kernel⟩
def rm_X0_becomeSum : Room := { frames := 4, cells := 0, slots := 0, locals := 168 }
theorem wd_X0_becomeDifference : zWv yX0_becomeDifference cX0_becomeDifference 4 (Option.none : Option Jvm.ClassFile.FieldType) 2 := ⟨⟨tg_i 626 (by decide +kernel) (by decide +kernel), tg_i 627 (by decide +kernel) (by decide +kernel), tg_i 20 (by decide +kernel) (by decide +kernel), tg_i 628 (by decide +kernel) (by decide +kernel)⟩, by decide +kernel⟩
def rm_X0_becomeDifference : Room := { frames := 5, cells := 0, slots := 0, locals := 190 }
theorem wd_X0_placeProducts : zWv yX0_placeProducts cX0_placeProducts 11 (Option.none : Option Jvm.ClassFile.FieldType) 5 := ⟨⟨tg_i 506 (by decide +kernel) (by decide +kernel), tg_i 9 (by decide +kernel) (by decide +kernel), tg_i 20 (by decide +kernel) (by decide +kernel), tg_i 507 (by decide +kernel) (by decide +kernel)⟩, by decide +kernel⟩
def rm_X0_placeProducts : Room := { frames := 1, cells := 0, slots := 0, locals := 100 }
theorem wd_X0_becomeHadamard : zWv yX0_becomeHadamard cX0_becomeHadamard 7 (Option.none : Option Jvm.ClassFile.FieldType) 2 := ⟨⟨tg_i 501 (by decide +kernel) (by decide +kernel), tg_i 502 (by decide +kernel) (by decide +kernel), tg_i 20 (by decide +kernel) (by decide +kernel), tg_i 503 (by decide +kernel) (by decide +kernel)⟩, by decide +kernel⟩
def rm_X0_becomeHadamard : Room := { frames := 2, cells := 0, slots := 0, locals := 130 }
theorem wd_X0_weightFrom : zWv yX0_weightFrom cX0_weightFrom 4 (Option.some FieldType.int) 1 := ⟨⟨tg_i 418 (by decide +kernel) (by decide +kernel), tg_i 419 (by decide +kernel) (by decide +kernel), tg_i 20 (by decide +kernel) (by decide +kernel), tg_i 420 (by decide +kernel) (by decide +kernel)⟩, by decide +kernel⟩
def rm_X0_weightFrom : Room := { frames := 1, cells := 0, slots := 0, locals := 100 }
theorem wd_X0_emptyWeight : zWv yX0_emptyWeight cX0_emptyWeight 1 (Option.some FieldType.int) 0 := ⟨⟨tg_i 479 (by decide +kernel) (by decide +kernel), tg_i 480 (by decide +kernel) (by decide +kernel), tg_i 20 (by decide +kernel) (by decide +kernel), tg_i 481 (by decide +kernel) (by decide +kernel)⟩, by decide +kernel⟩
def rm_X0_emptyWeight : Room := { frames := 2, cells := 0, slots := 0, locals := 123 }
theorem wd_X6_multiply : zWs yX6_multiply cX6_multiply 4 (Option.none : Option Jvm.ClassFile.FieldType) 3 := ⟨⟨tg_i 515 (by decide +kernel) (by decide +kernel), tg_i 19 (by decide +kernel) (by decide +kernel), tg_i 516 (by decide +kernel) (by decide +kernel)⟩, by decide +kernel⟩
def rm_X6_multiply : Room := { frames := 1, cells := 0, slots := 0, locals := 100 }
theorem wd_X0_stepThenLast : zWv yX0_stepThenLast cX0_stepThenLast 5 (Option.some FieldType.int) 2 := ⟨⟨tg_i 519 (by decide +kernel) (by decide +kernel), tg_i 10 (by decide +kernel) (by decide +kernel), tg_i 20 (by decide +kernel) (by decide +kernel), tg_i 520 (by decide +kernel) (by decide +kernel)⟩, by decide +kernel⟩
def rm_X0_stepThenLast : Room := { frames := 1, cells := 0, slots := 0, locals := 100 }
theorem wd_X0_becomeCauchy : zWv yX0_becomeCauchy cX0_becomeCauchy 9 (Option.none : Option Jvm.ClassFile.FieldType) 2 := ⟨⟨tg_i 509 (by decide +kernel) (by decide +kernel), tg_i 510 (by decide +kernel) (by decide +kernel), tg_i 20 (by decide +kernel) (by decide +kernel), tg_i 511 (by decide +kernel) (by decide +kernel)⟩, by decide +kernel⟩
def rm_X0_becomeCauchy : Room := { frames := 5, cells := 0, slots := 0, locals := 190 }
theorem wd_X0_hasStar : zWv yX0_hasStar cX0_hasStar 1 (Option.some FieldType.boolean) 0 := ⟨⟨tg_i 634 (by decide +kernel) (by decide +kernel), tg_i 635 (by decide +kernel) (by decide +kernel), tg_i 20 (by decide +kernel) (by decide +kernel), tg_i 636 (by decide +kernel) (by decide +kernel)⟩, by decide +kernel⟩
def rm_X0_hasStar : Room := { frames := 3, cells := 0, slots := 0, locals := 143 }
theorem wd_X0_initialThenStep : zWv yX0_initialThenStep cX0_initialThenStep 5 (Option.some FieldType.int) 2 := ⟨⟨tg_i 644 (by decide +kernel) (by decide +kernel), tg_i 15 (by decide +kernel) (by decide +kernel), tg_i 20 (by decide +kernel) (by decide +kernel), tg_i 645 (by decide +kernel) (by decide +kernel)⟩, by decide +kernel⟩
def rm_X0_initialThenStep : Room := { frames := 1, cells := 0, slots := 0, locals := 100 }
theorem wd_X0_becomeStar : zWv yX0_becomeStar cX0_becomeStar 6 (Option.none : Option Jvm.ClassFile.FieldType) 1 := ⟨⟨tg_i 639 (by decide +kernel) (by decide +kernel), tg_i 640 (by decide +kernel) (by decide +kernel), tg_i 20 (by decide +kernel) (by decide +kernel), tg_i 641 (by decide +kernel) (by decide +kernel)⟩, by decide +kernel⟩
def rm_X0_becomeStar : Room := { frames := 4, cells := 0, slots := 0, locals := 168 }
theorem wd_X0_startAfter : zWv yX0_startAfter cX0_startAfter 4 (Option.none : Option Jvm.ClassFile.FieldType) 2 := ⟨⟨tg_i 647 (by decide +kernel) (by decide +kernel), tg_i 648 (by decide +kernel) (by decide +kernel), tg_i 20 (by decide +kernel) (by decide +kernel), tg_i 649 (by decide +kernel) (by decide +kernel)⟩, by decide +kernel⟩
def rm_X0_startAfter : Room := { frames := 2, cells := 0, slots := 0, locals := 124 }
theorem wd_X0_transpose : zWv yX0_transpose cX0_transpose 5 (Option.none : Option Jvm.ClassFile.FieldType) 1 := ⟨⟨tg_i 395 (by decide +kernel) (by decide +kernel), tg_i 4 (by decide +kernel) (by decide +kernel), tg_i 20 (by decide +kernel) (by decide +kernel), tg_i 396 (by decide +kernel) (by decide +kernel)⟩, by decide +kernel⟩
def rm_X0_transpose : Room := { frames := 1, cells := 0, slots := 0, locals := 100 }
theorem wd_X0_reverse : zWv yX0_reverse cX0_reverse 3 (Option.none : Option Jvm.ClassFile.FieldType) 0 := ⟨⟨tg_i 390 (by decide +kernel) (by decide +kernel), tg_i 391 (by decide +kernel) (by decide +kernel), tg_i 20 (by decide +kernel) (by decide +kernel), tg_i 392 (by decide +kernel) (by decide +kernel)⟩, by decide +kernel⟩
def rm_X0_reverse : Room := { frames := 2, cells := 0, slots := 0, locals := 124 }
theorem wd_X0_addStep : zWv yX0_addStep cX0_addStep 9 (Option.none : Option Jvm.ClassFile.FieldType) 3 := ⟨⟨tg_i 433 (by decide +kernel) (by decide +kernel), tg_i 434 (by decide +kernel) (by decide +kernel), tg_i 20 (by decide +kernel) (by decide +kernel), tg_i 435 (by decide +kernel) (by decide +kernel)⟩, by decide +kernel⟩
def rm_X0_addStep : Room := { frames := 1, cells := 0, slots := 0, locals := 100 }
theorem wd_X0_takeStep : zWv yX0_takeStep cX0_takeStep 4 (Option.none : Option Jvm.ClassFile.FieldType) 3 := ⟨⟨tg_i 429 (by decide +kernel) (by decide +kernel), tg_i 430 (by decide +kernel) (by decide +kernel), tg_i 20 (by decide +kernel) (by decide +kernel), tg_i 431 (by decide +kernel) (by decide +kernel)⟩, by decide +kernel⟩
def rm_X0_takeStep : Room := { frames := 3, cells := 0, slots := 0, locals := 146 }
theorem wd_X0_hash : zWv yX0_hash cX0_hash 7 (Option.some FieldType.long) 1 := ⟨⟨tg_i 380 (by decide +kernel) (by decide +kernel), tg_i 381 (by decide +kernel) (by decide +kernel), tg_i 20 (by decide +kernel) (by decide +kernel), tg_i 382 (by decide +kernel) (by decide +kernel)⟩, by decide +kernel⟩
def rm_X0_hash : Room := { frames := 1, cells := 0, slots := 0, locals := 100 }
theorem wd_X6_addMultiple : zWs yX6_addMultiple cX6_addMultiple 5 (Option.none : Option Jvm.ClassFile.FieldType) 4 := ⟨⟨tg_i 412 (by decide +kernel) (by decide +kernel), tg_i 19 (by decide +kernel) (by decide +kernel), tg_i 413 (by decide +kernel) (by decide +kernel)⟩, by decide +kernel⟩
def rm_X6_addMultiple : Room := { frames := 1, cells := 0, slots := 0, locals := 100 }
theorem wd_X6_firstNonZero : zWs yX6_firstNonZero cX6_firstNonZero 3 (Option.some FieldType.int) 2 := ⟨⟨tg_i 415 (by decide +kernel) (by decide +kernel), tg_i 19 (by decide +kernel) (by decide +kernel), tg_i 416 (by decide +kernel) (by decide +kernel)⟩, by decide +kernel⟩
def rm_X6_firstNonZero : Room := { frames := 1, cells := 0, slots := 0, locals := 100 }
theorem wd_X6_reciprocal : zWs yX6_reciprocal cX6_reciprocal 4 (Option.some FieldType.int) 1 := ⟨⟨tg_i 422 (by decide +kernel) (by decide +kernel), tg_i 19 (by decide +kernel) (by decide +kernel), tg_i 423 (by decide +kernel) (by decide +kernel)⟩, by decide +kernel⟩
def rm_X6_reciprocal : Room := { frames := 1, cells := 0, slots := 0, locals := 100 }
theorem wd_X1_extend : zWv yX1_extend cX1_extend 5 (Option.none : Option Jvm.ClassFile.FieldType) 2 := ⟨⟨tg_i 426 (by decide +kernel) (by decide +kernel), tg_i 6 (by decide +kernel) (by decide +kernel), tg_i 23 (by decide +kernel) (by decide +kernel), tg_i 427 (by decide +kernel) (by decide +kernel)⟩, by decide +kernel⟩
def rm_X1_extend : Room := { frames := 1, cells := 0, slots := 0, locals := 100 }
theorem wd_X1_place : zWv yX1_place cX1_place 6 (Option.none : Option Jvm.ClassFile.FieldType) 2 := ⟨⟨tg_i 408 (by decide +kernel) (by decide +kernel), tg_i 5 (by decide +kernel) (by decide +kernel), tg_i 23 (by decide +kernel) (by decide +kernel), tg_i 409 (by decide +kernel) (by decide +kernel)⟩, by decide +kernel⟩
def rm_X1_place : Room := { frames := 3, cells := 0, slots := 0, locals := 146 }
theorem wd_X1_explore : zWv yX1_explore cX1_explore 5 (Option.none : Option Jvm.ClassFile.FieldType) 1 := ⟨⟨tg_i 402 (by decide +kernel) (by decide +kernel), tg_i 403 (by decide +kernel) (by decide +kernel), tg_i 23 (by decide +kernel) (by decide +kernel), tg_i 404 (by decide +kernel) (by decide +kernel)⟩, by decide +kernel⟩
def rm_X1_explore : Room := { frames := 4, cells := 0, slots := 0, locals := 171 }
theorem wd_X1_firstWeighted : zWv yX1_firstWeighted cX1_firstWeighted 2 (Option.some FieldType.int) 0 := ⟨⟨tg_i 569 (by decide +kernel) (by decide +kernel), tg_i 570 (by decide +kernel) (by decide +kernel), tg_i 23 (by decide +kernel) (by decide +kernel), tg_i 571 (by decide +kernel) (by decide +kernel)⟩, by decide +kernel⟩
def rm_X1_firstWeighted : Room := { frames := 2, cells := 0, slots := 0, locals := 122 }
theorem wd_X1_build : zWv yX1_build cX1_build 4 (Option.none : Option Jvm.ClassFile.FieldType) 1 := ⟨⟨tg_i 438 (by decide +kernel) (by decide +kernel), tg_i 7 (by decide +kernel) (by decide +kernel), tg_i 23 (by decide +kernel) (by decide +kernel), tg_i 439 (by decide +kernel) (by decide +kernel)⟩, by decide +kernel⟩
def rm_X1_build : Room := { frames := 4, cells := 0, slots := 0, locals := 168 }
theorem wd_X1_reduce : zWv yX1_reduce cX1_reduce 2 (Option.none : Option Jvm.ClassFile.FieldType) 1 := ⟨⟨tg_i 443 (by decide +kernel) (by decide +kernel), tg_i 444 (by decide +kernel) (by decide +kernel), tg_i 23 (by decide +kernel) (by decide +kernel), tg_i 445 (by decide +kernel) (by decide +kernel)⟩, by decide +kernel⟩
def rm_X1_reduce : Room := { frames := 5, cells := 0, slots := 0, locals := 195 }
theorem wd_X1_minimize : zWv yX1_minimize cX1_minimize 3 (Option.none : Option Jvm.ClassFile.FieldType) 1 := ⟨⟨tg_i 398 (by decide +kernel) (by decide +kernel), tg_i 399 (by decide +kernel) (by decide +kernel), tg_i 23 (by decide +kernel) (by decide +kernel), tg_i 400 (by decide +kernel) (by decide +kernel)⟩, by decide +kernel⟩
def rm_X1_minimize : Room := { frames := 5, cells := 0, slots := 0, locals := 195 }
theorem wd_X3_raisePivot : zWv yX3_raisePivot cX3_raisePivot 6 (Option.some FieldType.boolean) 3 := ⟨⟨tg_i 606 (by decide +kernel) (by decide +kernel), tg_i 13 (by decide +kernel) (by decide +kernel), tg_i 24 (by decide +kernel) (by decide +kernel), tg_i 607 (by decide +kernel) (by decide +kernel)⟩, by decide +kernel⟩
def rm_X3_raisePivot : Room := { frames := 1, cells := 0, slots := 0, locals := 100 }
theorem wd_X3_clearBelow : zWv yX3_clearBelow cX3_clearBelow 8 (Option.none : Option Jvm.ClassFile.FieldType) 4 := ⟨⟨tg_i 610 (by decide +kernel) (by decide +kernel), tg_i 14 (by decide +kernel) (by decide +kernel), tg_i 24 (by decide +kernel) (by decide +kernel), tg_i 611 (by decide +kernel) (by decide +kernel)⟩, by decide +kernel⟩
def rm_X3_clearBelow : Room := { frames := 2, cells := 0, slots := 0, locals := 124 }
theorem wd_X3_rank : zWv yX3_rank cX3_rank 5 (Option.some FieldType.int) 2 := ⟨⟨tg_i 601 (by decide +kernel) (by decide +kernel), tg_i 602 (by decide +kernel) (by decide +kernel), tg_i 24 (by decide +kernel) (by decide +kernel), tg_i 603 (by decide +kernel) (by decide +kernel)⟩, by decide +kernel⟩
def rm_X3_rank : Room := { frames := 3, cells := 0, slots := 0, locals := 151 }
theorem wd_J7_fill_53178 : zWs yJ7_fill_53178 cJ7_fill_53178 4 (Option.none : Option Jvm.ClassFile.FieldType) 2 := ⟨⟨tg_i 581 (by decide +kernel) (by decide +kernel), tg_i 33 (by decide +kernel) (by decide +kernel), tg_i 582 (by decide +kernel) (by decide +kernel)⟩, by decide +kernel⟩
def rm_J7_fill_53178 : Room := { frames := 1, cells := 0, slots := 0, locals := 100 }
theorem wd_X4_start : zWv yX4_start cX4_start 2 (Option.none : Option Jvm.ClassFile.FieldType) 1 := ⟨⟨tg_i 577 (by decide +kernel) (by decide +kernel), tg_i 578 (by decide +kernel) (by decide +kernel), tg_i 22 (by decide +kernel) (by decide +kernel), tg_i 579 (by decide +kernel) (by decide +kernel)⟩, by decide +kernel⟩
def rm_X4_start : Room := { frames := 2, cells := 0, slots := 0, locals := 123 }
theorem wd_X6_lengthOf : zWs yX6_lengthOf cX6_lengthOf 3 (Option.some FieldType.int) 1 := ⟨⟨tg_i 588 (by decide +kernel) (by decide +kernel), tg_i 19 (by decide +kernel) (by decide +kernel), tg_i 589 (by decide +kernel) (by decide +kernel)⟩, by decide +kernel⟩
def rm_X6_lengthOf : Room := { frames := 1, cells := 0, slots := 0, locals := 100 }
theorem wd_X4_weigh : zWv yX4_weigh cX4_weigh 6 (Option.some FieldType.int) 2 := ⟨⟨tg_i 591 (by decide +kernel) (by decide +kernel), tg_i 592 (by decide +kernel) (by decide +kernel), tg_i 22 (by decide +kernel) (by decide +kernel), tg_i 593 (by decide +kernel) (by decide +kernel)⟩, by decide +kernel⟩
def rm_X4_weigh : Room := { frames := 4, cells := 0, slots := 0, locals := 169 }
theorem wd_X5_start : zWv yX5_start cX5_start 2 (Option.none : Option Jvm.ClassFile.FieldType) 1 := ⟨⟨tg_i 534 (by decide +kernel) (by decide +kernel), tg_i 535 (by decide +kernel) (by decide +kernel), tg_i 21 (by decide +kernel) (by decide +kernel), tg_i 536 (by decide +kernel) (by decide +kernel)⟩, by decide +kernel⟩
def rm_X5_start : Room := { frames := 1, cells := 0, slots := 0, locals := 100 }
theorem wd_X5_swap : zWv yX5_swap cX5_swap 2 (Option.none : Option Jvm.ClassFile.FieldType) 0 := ⟨⟨tg_i 546 (by decide +kernel) (by decide +kernel), tg_i 12 (by decide +kernel) (by decide +kernel), tg_i 21 (by decide +kernel) (by decide +kernel), tg_i 547 (by decide +kernel) (by decide +kernel)⟩, by decide +kernel⟩
def rm_X5_swap : Room := { frames := 1, cells := 0, slots := 0, locals := 100 }
theorem wd_X5_takeWord : zWv yX5_takeWord cX5_takeWord 5 (Option.none : Option Jvm.ClassFile.FieldType) 2 := ⟨⟨tg_i 559 (by decide +kernel) (by decide +kernel), tg_i 560 (by decide +kernel) (by decide +kernel), tg_i 21 (by decide +kernel) (by decide +kernel), tg_i 561 (by decide +kernel) (by decide +kernel)⟩, by decide +kernel⟩
def rm_X5_takeWord : Room := { frames := 4, cells := 0, slots := 0, locals := 169 }
theorem wd_X5_takeBoth : zWv yX5_takeBoth cX5_takeBoth 3 (Option.none : Option Jvm.ClassFile.FieldType) 1 := ⟨⟨tg_i 539 (by decide +kernel) (by decide +kernel), tg_i 540 (by decide +kernel) (by decide +kernel), tg_i 21 (by decide +kernel) (by decide +kernel), tg_i 541 (by decide +kernel) (by decide +kernel)⟩, by decide +kernel⟩
def rm_X5_takeBoth : Room := { frames := 3, cells := 0, slots := 0, locals := 146 }
theorem wd_X5_value : zWv yX5_value cX5_value 2 (Option.some FieldType.int) 1 := ⟨⟨tg_i 549 (by decide +kernel) (by decide +kernel), tg_i 550 (by decide +kernel) (by decide +kernel), tg_i 21 (by decide +kernel) (by decide +kernel), tg_i 551 (by decide +kernel) (by decide +kernel)⟩, by decide +kernel⟩
def rm_X5_value : Room := { frames := 2, cells := 0, slots := 0, locals := 123 }
theorem wd_X6_checkSlot : zWs yX6_checkSlot cX6_checkSlot 1 (Option.none : Option Jvm.ClassFile.FieldType) 1 := ⟨⟨tg_i 240 (by decide +kernel) (by decide +kernel), tg_i 19 (by decide +kernel) (by decide +kernel), tg_i 241 (by decide +kernel) (by decide +kernel)⟩, by decide +kernel⟩
def rm_X6_checkSlot : Room := { frames := 6, cells := 1, slots := 6, locals := 100 }
theorem wd_X6_checkRange : zWs yX6_checkRange cX6_checkRange 3 (Option.none : Option Jvm.ClassFile.FieldType) 3 := ⟨⟨tg_i 311 (by decide +kernel) (by decide +kernel), tg_i 19 (by decide +kernel) (by decide +kernel), tg_i 312 (by decide +kernel) (by decide +kernel)⟩, by decide +kernel⟩
def rm_X6_checkRange : Room := { frames := 6, cells := 1, slots := 6, locals := 100 }
theorem wd_X6_dropOldest : zWv yX6_dropOldest cX6_dropOldest 3 (Option.none : Option Jvm.ClassFile.FieldType) 0 := ⟨⟨tg_i 335 (by decide +kernel) (by decide +kernel), tg_i 2 (by decide +kernel) (by decide +kernel), tg_i 19 (by decide +kernel) (by decide +kernel), tg_i 336 (by decide +kernel) (by decide +kernel)⟩, by decide +kernel⟩
def rm_X6_dropOldest : Room := { frames := 1, cells := 0, slots := 0, locals := 100 }
theorem wd_X6_save : zWv yX6_save cX6_save 2 (Option.none : Option Jvm.ClassFile.FieldType) 1 := ⟨⟨tg_i 331 (by decide +kernel) (by decide +kernel), tg_i 1 (by decide +kernel) (by decide +kernel), tg_i 19 (by decide +kernel) (by decide +kernel), tg_i 332 (by decide +kernel) (by decide +kernel)⟩, by decide +kernel⟩
def rm_X6_save : Room := { frames := 2, cells := 0, slots := 0, locals := 122 }
theorem wd_X6_begin : zWv yX6_begin cX6_begin 5 (Option.some FieldType.int) 2 := ⟨⟨tg_i 236 (by decide +kernel) (by decide +kernel), tg_i 237 (by decide +kernel) (by decide +kernel), tg_i 19 (by decide +kernel) (by decide +kernel), tg_i 238 (by decide +kernel) (by decide +kernel)⟩, by decide +kernel⟩
def rm_X6_begin : Room := { frames := 7, cells := 2, slots := 12, locals := 168 }
theorem wd_X6_random : zWv yX6_random cX6_random 4 (Option.some FieldType.int) 3 := ⟨⟨tg_i 459 (by decide +kernel) (by decide +kernel), tg_i 460 (by decide +kernel) (by decide +kernel), tg_i 19 (by decide +kernel) (by decide +kernel), tg_i 461 (by decide +kernel) (by decide +kernel)⟩, by decide +kernel⟩
def rm_X6_random : Room := { frames := 7, cells := 3, slots := 18, locals := 147 }
theorem wd_X6_states : zWv yX6_states cX6_states 2 (Option.some FieldType.int) 1 := ⟨⟨tg_i 618 (by decide +kernel) (by decide +kernel), tg_i 619 (by decide +kernel) (by decide +kernel), tg_i 19 (by decide +kernel) (by decide +kernel), tg_i 620 (by decide +kernel) (by decide +kernel)⟩, by decide +kernel⟩
def rm_X6_states : Room := { frames := 7, cells := 1, slots := 6, locals := 120 }
theorem wd_X6_weight : zWv yX6_weight cX6_weight 3 (Option.some FieldType.int) 2 := ⟨⟨tg_i 554 (by decide +kernel) (by decide +kernel), tg_i 555 (by decide +kernel) (by decide +kernel), tg_i 19 (by decide +kernel) (by decide +kernel), tg_i 556 (by decide +kernel) (by decide +kernel)⟩, by decide +kernel⟩
def rm_X6_weight : Room := { frames := 7, cells := 2, slots := 12, locals := 193 }
theorem wd_X6_powerWeight : zWv yX6_powerWeight cX6_powerWeight 5 (Option.some FieldType.int) 3 := ⟨⟨tg_i 688 (by decide +kernel) (by decide +kernel), tg_i 689 (by decide +kernel) (by decide +kernel), tg_i 19 (by decide +kernel) (by decide +kernel), tg_i 690 (by decide +kernel) (by decide +kernel)⟩, by decide +kernel⟩
def rm_X6_powerWeight : Room := { frames := 7, cells := 3, slots := 18, locals := 193 }
theorem wd_X6_total : zWv yX6_total cX6_total 4 (Option.some FieldType.int) 2 := ⟨⟨tg_i 530 (by decide +kernel) (by decide +kernel), tg_i 531 (by decide +kernel) (by decide +kernel), tg_i 19 (by decide +kernel) (by decide +kernel), tg_i 532 (by decide +kernel) (by decide +kernel)⟩, by decide +kernel⟩
def rm_X6_total : Room := { frames := 7, cells := 2, slots := 12, locals := 168 }
theorem wd_X6_first : zWv yX6_first cX6_first 2 (Option.some FieldType.int) 1 := ⟨⟨tg_i 564 (by decide +kernel) (by decide +kernel), tg_i 565 (by decide +kernel) (by decide +kernel), tg_i 19 (by decide +kernel) (by decide +kernel), tg_i 566 (by decide +kernel) (by decide +kernel)⟩, by decide +kernel⟩
def rm_X6_first : Room := { frames := 7, cells := 1, slots := 6, locals := 195 }
theorem wd_X6_store : zWv yX6_store cX6_store 2 (Option.some FieldType.int) 1 := ⟨⟨tg_i 523 (by decide +kernel) (by decide +kernel), tg_i 11 (by decide +kernel) (by decide +kernel), tg_i 19 (by decide +kernel) (by decide +kernel), tg_i 524 (by decide +kernel) (by decide +kernel)⟩, by decide +kernel⟩
def rm_X6_store : Room := { frames := 3, cells := 0, slots := 0, locals := 143 }
theorem wd_X6_combine : zWv yX6_combine cX6_combine 8 (Option.some FieldType.int) 4 := ⟨⟨tg_i 487 (by decide +kernel) (by decide +kernel), tg_i 488 (by decide +kernel) (by decide +kernel), tg_i 19 (by decide +kernel) (by decide +kernel), tg_i 489 (by decide +kernel) (by decide +kernel)⟩, by decide +kernel⟩
def rm_X6_combine : Room := { frames := 7, cells := 5, slots := 30, locals := 218 }
theorem wd_X6_derive : zWv yX6_derive cX6_derive 5 (Option.some FieldType.int) 3 := ⟨⟨tg_i 630 (by decide +kernel) (by decide +kernel), tg_i 631 (by decide +kernel) (by decide +kernel), tg_i 19 (by decide +kernel) (by decide +kernel), tg_i 632 (by decide +kernel) (by decide +kernel)⟩, by decide +kernel⟩
def rm_X6_derive : Room := { frames := 7, cells := 4, slots := 24, locals := 217 }
theorem wd_X6_scale : zWv yX6_scale cX6_scale 4 (Option.some FieldType.int) 2 := ⟨⟨tg_i 677 (by decide +kernel) (by decide +kernel), tg_i 678 (by decide +kernel) (by decide +kernel), tg_i 19 (by decide +kernel) (by decide +kernel), tg_i 679 (by decide +kernel) (by decide +kernel)⟩, by decide +kernel⟩
def rm_X6_scale : Room := { frames := 7, cells := 2, slots := 12, locals := 143 }
theorem wd_X6_spaceSize : zWv yX6_spaceSize cX6_spaceSize 3 (Option.some FieldType.int) 2 := ⟨⟨tg_i 387 (by decide +kernel) (by decide +kernel), tg_i 3 (by decide +kernel) (by decide +kernel), tg_i 19 (by decide +kernel) (by decide +kernel), tg_i 388 (by decide +kernel) (by decide +kernel)⟩, by decide +kernel⟩
def rm_X6_spaceSize : Room := { frames := 6, cells := 0, slots := 0, locals := 217 }
theorem wd_X6_dimension : zWv yX6_dimension cX6_dimension 3 (Option.some FieldType.int) 2 := ⟨⟨tg_i 526 (by decide +kernel) (by decide +kernel), tg_i 527 (by decide +kernel) (by decide +kernel), tg_i 19 (by decide +kernel) (by decide +kernel), tg_i 528 (by decide +kernel) (by decide +kernel)⟩, by decide +kernel⟩
def rm_X6_dimension : Room := { frames := 7, cells := 2, slots := 12, locals := 239 }
theorem wd_X6_basisWord : zWv yX6_basisWord cX6_basisWord 3 (Option.some FieldType.int) 2 := ⟨⟨tg_i 669 (by decide +kernel) (by decide +kernel), tg_i 670 (by decide +kernel) (by decide +kernel), tg_i 19 (by decide +kernel) (by decide +kernel), tg_i 671 (by decide +kernel) (by decide +kernel)⟩, by decide +kernel⟩
def rm_X6_basisWord : Room := { frames := 7, cells := 2, slots := 12, locals := 195 }
theorem wd_X6_differing : zWv yX6_differing cX6_differing 3 (Option.some FieldType.int) 2 := ⟨⟨tg_i 622 (by decide +kernel) (by decide +kernel), tg_i 623 (by decide +kernel) (by decide +kernel), tg_i 19 (by decide +kernel) (by decide +kernel), tg_i 624 (by decide +kernel) (by decide +kernel)⟩, by decide +kernel⟩
def rm_X6_differing : Room := { frames := 7, cells := 2, slots := 12, locals := 213 }
theorem wd_X6_joinedWord : zWs yX6_joinedWord cX6_joinedWord 3 (Option.some FieldType.int) 2 := ⟨⟨tg_i 585 (by decide +kernel) (by decide +kernel), tg_i 19 (by decide +kernel) (by decide +kernel), tg_i 586 (by decide +kernel) (by decide +kernel)⟩, by decide +kernel⟩
def rm_X6_joinedWord : Room := { frames := 2, cells := 0, slots := 0, locals := 122 }
theorem wd_X6_hankelRank : zWv yX6_hankelRank cX6_hankelRank 5 (Option.some FieldType.int) 2 := ⟨⟨tg_i 573 (by decide +kernel) (by decide +kernel), tg_i 574 (by decide +kernel) (by decide +kernel), tg_i 19 (by decide +kernel) (by decide +kernel), tg_i 575 (by decide +kernel) (by decide +kernel)⟩, by decide +kernel⟩
def rm_X6_hankelRank : Room := { frames := 7, cells := 2, slots := 12, locals := 194 }
theorem wd_X6_collectTotals : zWv yX6_collectTotals cX6_collectTotals 4 (Option.none : Option Jvm.ClassFile.FieldType) 2 := ⟨⟨tg_i 659 (by decide +kernel) (by decide +kernel), tg_i 16 (by decide +kernel) (by decide +kernel), tg_i 19 (by decide +kernel) (by decide +kernel), tg_i 660 (by decide +kernel) (by decide +kernel)⟩, by decide +kernel⟩
def rm_X6_collectTotals : Room := { frames := 4, cells := 0, slots := 0, locals := 168 }
theorem wd_X6_fillRecurrences : zWv yX6_fillRecurrences cX6_fillRecurrences 4 (Option.none : Option Jvm.ClassFile.FieldType) 1 := ⟨⟨tg_i 663 (by decide +kernel) (by decide +kernel), tg_i 17 (by decide +kernel) (by decide +kernel), tg_i 19 (by decide +kernel) (by decide +kernel), tg_i 664 (by decide +kernel) (by decide +kernel)⟩, by decide +kernel⟩
def rm_X6_fillRecurrences : Room := { frames := 1, cells := 0, slots := 0, locals := 100 }
theorem wd_X6_recurs : zWv yX6_recurs cX6_recurs 4 (Option.some FieldType.boolean) 2 := ⟨⟨tg_i 654 (by decide +kernel) (by decide +kernel), tg_i 655 (by decide +kernel) (by decide +kernel), tg_i 19 (by decide +kernel) (by decide +kernel), tg_i 656 (by decide +kernel) (by decide +kernel)⟩, by decide +kernel⟩
def rm_X6_recurs : Room := { frames := 7, cells := 2, slots := 12, locals := 191 }
theorem wd_X6_inverse : zWv yX6_inverse cX6_inverse 2 (Option.some FieldType.int) 1 := ⟨⟨tg_i 683 (by decide +kernel) (by decide +kernel), tg_i 684 (by decide +kernel) (by decide +kernel), tg_i 19 (by decide +kernel) (by decide +kernel), tg_i 685 (by decide +kernel) (by decide +kernel)⟩, by decide +kernel⟩
def rm_X6_inverse : Room := { frames := 7, cells := 1, slots := 6, locals := 123 }
theorem wd_X6_undo : zWv yX6_undo cX6_undo 1 (Option.some FieldType.int) 0 := ⟨⟨tg_i 355 (by decide +kernel) (by decide +kernel), tg_i 356 (by decide +kernel) (by decide +kernel), tg_i 19 (by decide +kernel) (by decide +kernel), tg_i 357 (by decide +kernel) (by decide +kernel)⟩, by decide +kernel⟩
def rm_X6_undo : Room := { frames := 6, cells := 1, slots := 6, locals := 122 }
theorem wd_X6_digest : zWv yX6_digest cX6_digest 5 (Option.some FieldType.long) 0 := ⟨⟨tg_i 375 (by decide +kernel) (by decide +kernel), tg_i 376 (by decide +kernel) (by decide +kernel), tg_i 19 (by decide +kernel) (by decide +kernel), tg_i 377 (by decide +kernel) (by decide +kernel)⟩, by decide +kernel⟩
def rm_X6_digest : Room := { frames := 7, cells := 0, slots := 0, locals := 239 }
theorem zt_145_149_2 : zThr RX6 145 149 (exN 2) ["java/lang/RuntimeException", "java/lang/Exception"] := ⟨⟨by decide +kernel, by decide +kernel⟩, by decide +kernel, by decide +kernel, by decide +kernel, by decide +kernel⟩
theorem zt_204_208_0 : zThr RX6 204 208 (exN 0) ["java/lang/RuntimeException", "java/lang/Exception"] := ⟨⟨by decide +kernel, by decide +kernel⟩, by decide +kernel, by decide +kernel, by decide +kernel, by decide +kernel⟩
theorem zt_267_271_1 : zThr RX6 267 271 (exN 1) ["java/lang/RuntimeException", "java/lang/Exception"] := ⟨⟨by decide +kernel, by decide +kernel⟩, by decide +kernel, by decide +kernel, by decide +kernel, by decide +kernel⟩
theorem zstr_261 : (RX6, 261, "no such slot") ∈ zStr := List.mem_of_getElem? (i := 0) rfl
theorem zstr_269 : (RX6, 269, "out of range") ∈ zStr := List.mem_of_getElem? (i := 1) rfl
theorem zstr_147 : (RX6, 147, "too many states") ∈ zStr := List.mem_of_getElem? (i := 2) rfl
theorem zstr_170 : (RX6, 170, "no star") ∈ zStr := List.mem_of_getElem? (i := 3) rfl
theorem zstr_206 : (RX6, 206, "no such basis word") ∈ zStr := List.mem_of_getElem? (i := 4) rfl
theorem zstr_251 : (RX6, 251, "nothing is saved") ∈ zStr := List.mem_of_getElem? (i := 5) rfl
